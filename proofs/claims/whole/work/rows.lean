section
-- ===== PART A: goes FIRST, ahead of the names: the tables' words, and 'selects' of the private methods out of them =====
/-- a private method of a class that the tables say can be made, by its rows of tables_1 -/
def lw_okq (q : MethodName × Nat) : Prop := (q.1.cls ≠ "java/lang/invoke/MethodHandle" ∧ q.1.cls ≠ "java/lang/invoke/VarHandle") ∧ Cond.instantiable q.1.cls q.2 ∈ tables_1 ∧ Cond.privateMethod q.1 ∈ tables_1 ∧ Cond.instanceMethod q.1 ∈ tables_1
theorem lw_p0 : lw_okq (⟨"SongThatStays", "refuse", "(I)I"⟩, 8) := ⟨⟨by decide +kernel, by decide +kernel⟩, List.mem_of_getElem? (i := 16) (by decide +kernel), List.mem_of_getElem? (i := 206) (by decide +kernel), List.mem_of_getElem? (i := 207) (by decide +kernel)⟩
theorem lw_p1 : lw_okq (⟨"SongThatStays", "obeyAll", "()I"⟩, 8) := ⟨⟨by decide +kernel, by decide +kernel⟩, List.mem_of_getElem? (i := 16) (by decide +kernel), List.mem_of_getElem? (i := 342) (by decide +kernel), List.mem_of_getElem? (i := 343) (by decide +kernel)⟩
theorem lw_p2 : lw_okq (⟨"SongThatStays", "obey", "(I)Z"⟩, 8) := ⟨⟨by decide +kernel, by decide +kernel⟩, List.mem_of_getElem? (i := 16) (by decide +kernel), List.mem_of_getElem? (i := 377) (by decide +kernel), List.mem_of_getElem? (i := 378) (by decide +kernel)⟩
theorem lw_p3 : lw_okq (⟨"SongThatStays", "giveInMind", "(II)Z"⟩, 8) := ⟨⟨by decide +kernel, by decide +kernel⟩, List.mem_of_getElem? (i := 16) (by decide +kernel), List.mem_of_getElem? (i := 410) (by decide +kernel), List.mem_of_getElem? (i := 411) (by decide +kernel)⟩
theorem lw_p4 : lw_okq (⟨"SongThatStays", "setLoudInMind", "(I)Z"⟩, 8) := ⟨⟨by decide +kernel, by decide +kernel⟩, List.mem_of_getElem? (i := 16) (by decide +kernel), List.mem_of_getElem? (i := 441) (by decide +kernel), List.mem_of_getElem? (i := 442) (by decide +kernel)⟩
theorem lw_p5 : lw_okq (⟨"SongThatStays$Office", "listen", "(I)V"⟩, 10) := ⟨⟨by decide +kernel, by decide +kernel⟩, List.mem_of_getElem? (i := 24) (by decide +kernel), List.mem_of_getElem? (i := 537) (by decide +kernel), List.mem_of_getElem? (i := 538) (by decide +kernel)⟩
theorem lw_p6 : lw_okq (⟨"SongThatStays$Office", "weakening", "(I)I"⟩, 10) := ⟨⟨by decide +kernel, by decide +kernel⟩, List.mem_of_getElem? (i := 24) (by decide +kernel), List.mem_of_getElem? (i := 547) (by decide +kernel), List.mem_of_getElem? (i := 548) (by decide +kernel)⟩
theorem lw_p7 : lw_okq (⟨"SongThatStays", "headAndHours", "(II)I"⟩, 8) := ⟨⟨by decide +kernel, by decide +kernel⟩, List.mem_of_getElem? (i := 16) (by decide +kernel), List.mem_of_getElem? (i := 565) (by decide +kernel), List.mem_of_getElem? (i := 566) (by decide +kernel)⟩
theorem lw_p8 : lw_okq (⟨"SongThatStays", "imagine", "(I)V"⟩, 8) := ⟨⟨by decide +kernel, by decide +kernel⟩, List.mem_of_getElem? (i := 16) (by decide +kernel), List.mem_of_getElem? (i := 572) (by decide +kernel), List.mem_of_getElem? (i := 573) (by decide +kernel)⟩
theorem lw_p9 : lw_okq (⟨"SongThatStays", "songAndHours", "(II)I"⟩, 8) := ⟨⟨by decide +kernel, by decide +kernel⟩, List.mem_of_getElem? (i := 16) (by decide +kernel), List.mem_of_getElem? (i := 585) (by decide +kernel), List.mem_of_getElem? (i := 586) (by decide +kernel)⟩
theorem lw_p10 : lw_okq (⟨"SongThatStays", "hoursUntilRid", "(I)I"⟩, 8) := ⟨⟨by decide +kernel, by decide +kernel⟩, List.mem_of_getElem? (i := 16) (by decide +kernel), List.mem_of_getElem? (i := 617) (by decide +kernel), List.mem_of_getElem? (i := 618) (by decide +kernel)⟩
theorem lw_p11 : lw_okq (⟨"SongThatStays", "holdersIfWritten", "(IIII)I"⟩, 8) := ⟨⟨by decide +kernel, by decide +kernel⟩, List.mem_of_getElem? (i := 16) (by decide +kernel), List.mem_of_getElem? (i := 646) (by decide +kernel), List.mem_of_getElem? (i := 647) (by decide +kernel)⟩
theorem lw_p12 : lw_okq (⟨"SongThatStays", "leadsToTold", "(III)Z"⟩, 8) := ⟨⟨by decide +kernel, by decide +kernel⟩, List.mem_of_getElem? (i := 16) (by decide +kernel), List.mem_of_getElem? (i := 658) (by decide +kernel), List.mem_of_getElem? (i := 659) (by decide +kernel)⟩
theorem lw_p13 : lw_okq (⟨"SongThatStays", "unlikeTold", "(LSongThatStays$Heads;I)I"⟩, 8) := ⟨⟨by decide +kernel, by decide +kernel⟩, List.mem_of_getElem? (i := 16) (by decide +kernel), List.mem_of_getElem? (i := 662) (by decide +kernel), List.mem_of_getElem? (i := 663) (by decide +kernel)⟩
theorem lw_p14 : lw_okq (⟨"SongThatStaysModel", "refuse", "(I)I"⟩, 17) := ⟨⟨by decide +kernel, by decide +kernel⟩, List.mem_of_getElem? (i := 700) (by decide +kernel), List.mem_of_getElem? (i := 765) (by decide +kernel), List.mem_of_getElem? (i := 766) (by decide +kernel)⟩
theorem lw_p15 : lw_okq (⟨"SongThatStaysModel", "reads", "()I"⟩, 17) := ⟨⟨by decide +kernel, by decide +kernel⟩, List.mem_of_getElem? (i := 700) (by decide +kernel), List.mem_of_getElem? (i := 773) (by decide +kernel), List.mem_of_getElem? (i := 774) (by decide +kernel)⟩
def lw_privs_1 : List (MethodName × Nat) := [(⟨"SongThatStays", "refuse", "(I)I"⟩, 8), (⟨"SongThatStays", "obeyAll", "()I"⟩, 8), (⟨"SongThatStays", "obey", "(I)Z"⟩, 8), (⟨"SongThatStays", "giveInMind", "(II)Z"⟩, 8), (⟨"SongThatStays", "setLoudInMind", "(I)Z"⟩, 8), (⟨"SongThatStays$Office", "listen", "(I)V"⟩, 10), (⟨"SongThatStays$Office", "weakening", "(I)I"⟩, 10), (⟨"SongThatStays", "headAndHours", "(II)I"⟩, 8), (⟨"SongThatStays", "imagine", "(I)V"⟩, 8), (⟨"SongThatStays", "songAndHours", "(II)I"⟩, 8), (⟨"SongThatStays", "hoursUntilRid", "(I)I"⟩, 8), (⟨"SongThatStays", "holdersIfWritten", "(IIII)I"⟩, 8), (⟨"SongThatStays", "leadsToTold", "(III)Z"⟩, 8), (⟨"SongThatStays", "unlikeTold", "(LSongThatStays$Heads;I)I"⟩, 8), (⟨"SongThatStaysModel", "refuse", "(I)I"⟩, 17), (⟨"SongThatStaysModel", "reads", "()I"⟩, 17)]
theorem lw_r1 : ∀ q ∈ lw_privs_1, lw_okq q := List.forall_mem_cons.mpr ⟨lw_p0, List.forall_mem_cons.mpr ⟨lw_p1, List.forall_mem_cons.mpr ⟨lw_p2, List.forall_mem_cons.mpr ⟨lw_p3, List.forall_mem_cons.mpr ⟨lw_p4, List.forall_mem_cons.mpr ⟨lw_p5, List.forall_mem_cons.mpr ⟨lw_p6, List.forall_mem_cons.mpr ⟨lw_p7, List.forall_mem_cons.mpr ⟨lw_p8, List.forall_mem_cons.mpr ⟨lw_p9, List.forall_mem_cons.mpr ⟨lw_p10, List.forall_mem_cons.mpr ⟨lw_p11, List.forall_mem_cons.mpr ⟨lw_p12, List.forall_mem_cons.mpr ⟨lw_p13, List.forall_mem_cons.mpr ⟨lw_p14, List.forall_mem_cons.mpr ⟨lw_p15, fun _ h => absurd h List.not_mem_nil⟩⟩⟩⟩⟩⟩⟩⟩⟩⟩⟩⟩⟩⟩⟩⟩
theorem lw_p16 : lw_okq (⟨"SongThatStaysModel", "readsStatement", "()Z"⟩, 17) := ⟨⟨by decide +kernel, by decide +kernel⟩, List.mem_of_getElem? (i := 700) (by decide +kernel), List.mem_of_getElem? (i := 777) (by decide +kernel), List.mem_of_getElem? (i := 778) (by decide +kernel)⟩
theorem lw_p17 : lw_okq (⟨"SongThatStaysModel", "sign", "()I"⟩, 17) := ⟨⟨by decide +kernel, by decide +kernel⟩, List.mem_of_getElem? (i := 700) (by decide +kernel), List.mem_of_getElem? (i := 781) (by decide +kernel), List.mem_of_getElem? (i := 782) (by decide +kernel)⟩
theorem lw_p18 : lw_okq (⟨"SongThatStaysModel", "readsNumber", "(II)Z"⟩, 17) := ⟨⟨by decide +kernel, by decide +kernel⟩, List.mem_of_getElem? (i := 700) (by decide +kernel), List.mem_of_getElem? (i := 785) (by decide +kernel), List.mem_of_getElem? (i := 786) (by decide +kernel)⟩
theorem lw_p19 : lw_okq (⟨"SongThatStaysModel", "readsKind", "(I)Z"⟩, 17) := ⟨⟨by decide +kernel, by decide +kernel⟩, List.mem_of_getElem? (i := 700) (by decide +kernel), List.mem_of_getElem? (i := 795) (by decide +kernel), List.mem_of_getElem? (i := 796) (by decide +kernel)⟩
theorem lw_p20 : lw_okq (⟨"SongThatStaysModel", "takes", "(I)Z"⟩, 17) := ⟨⟨by decide +kernel, by decide +kernel⟩, List.mem_of_getElem? (i := 700) (by decide +kernel), List.mem_of_getElem? (i := 802) (by decide +kernel), List.mem_of_getElem? (i := 803) (by decide +kernel)⟩
theorem lw_p21 : lw_okq (⟨"SongThatStaysModel", "comes", "(I)Z"⟩, 17) := ⟨⟨by decide +kernel, by decide +kernel⟩, List.mem_of_getElem? (i := 700) (by decide +kernel), List.mem_of_getElem? (i := 809) (by decide +kernel), List.mem_of_getElem? (i := 810) (by decide +kernel)⟩
theorem lw_p22 : lw_okq (⟨"SongThatStaysModel", "puts", "(III)V"⟩, 17) := ⟨⟨by decide +kernel, by decide +kernel⟩, List.mem_of_getElem? (i := 700) (by decide +kernel), List.mem_of_getElem? (i := 813) (by decide +kernel), List.mem_of_getElem? (i := 814) (by decide +kernel)⟩
theorem lw_p23 : lw_okq (⟨"SongThatStaysModel", "isHead", "(I)Z"⟩, 17) := ⟨⟨by decide +kernel, by decide +kernel⟩, List.mem_of_getElem? (i := 700) (by decide +kernel), List.mem_of_getElem? (i := 817) (by decide +kernel), List.mem_of_getElem? (i := 818) (by decide +kernel)⟩
theorem lw_p24 : lw_okq (⟨"SongThatStaysModel", "isSong", "(I)Z"⟩, 17) := ⟨⟨by decide +kernel, by decide +kernel⟩, List.mem_of_getElem? (i := 700) (by decide +kernel), List.mem_of_getElem? (i := 821) (by decide +kernel), List.mem_of_getElem? (i := 822) (by decide +kernel)⟩
theorem lw_p25 : lw_okq (⟨"SongThatStaysModel", "gets", "(II)V"⟩, 17) := ⟨⟨by decide +kernel, by decide +kernel⟩, List.mem_of_getElem? (i := 700) (by decide +kernel), List.mem_of_getElem? (i := 825) (by decide +kernel), List.mem_of_getElem? (i := 826) (by decide +kernel)⟩
theorem lw_p26 : lw_okq (⟨"SongThatStaysModel", "fresh", "(I)I"⟩, 17) := ⟨⟨by decide +kernel, by decide +kernel⟩, List.mem_of_getElem? (i := 700) (by decide +kernel), List.mem_of_getElem? (i := 829) (by decide +kernel), List.mem_of_getElem? (i := 830) (by decide +kernel)⟩
theorem lw_p27 : lw_okq (⟨"SongThatStaysModel", "of", "(II)I"⟩, 17) := ⟨⟨by decide +kernel, by decide +kernel⟩, List.mem_of_getElem? (i := 700) (by decide +kernel), List.mem_of_getElem? (i := 833) (by decide +kernel), List.mem_of_getElem? (i := 834) (by decide +kernel)⟩
theorem lw_p28 : lw_okq (⟨"SongThatStaysModel", "haveIt", "(I)I"⟩, 17) := ⟨⟨by decide +kernel, by decide +kernel⟩, List.mem_of_getElem? (i := 700) (by decide +kernel), List.mem_of_getElem? (i := 841) (by decide +kernel), List.mem_of_getElem? (i := 842) (by decide +kernel)⟩
theorem lw_p29 : lw_okq (⟨"SongThatStaysModel", "at", "(II)I"⟩, 17) := ⟨⟨by decide +kernel, by decide +kernel⟩, List.mem_of_getElem? (i := 700) (by decide +kernel), List.mem_of_getElem? (i := 845) (by decide +kernel), List.mem_of_getElem? (i := 846) (by decide +kernel)⟩
theorem lw_p30 : lw_okq (⟨"SongThatStaysModel", "bar", "(I)I"⟩, 17) := ⟨⟨by decide +kernel, by decide +kernel⟩, List.mem_of_getElem? (i := 700) (by decide +kernel), List.mem_of_getElem? (i := 853) (by decide +kernel), List.mem_of_getElem? (i := 854) (by decide +kernel)⟩
theorem lw_p31 : lw_okq (⟨"SongThatStaysModel", "hums", "(I)Z"⟩, 17) := ⟨⟨by decide +kernel, by decide +kernel⟩, List.mem_of_getElem? (i := 700) (by decide +kernel), List.mem_of_getElem? (i := 857) (by decide +kernel), List.mem_of_getElem? (i := 858) (by decide +kernel)⟩
def lw_privs_2 : List (MethodName × Nat) := [(⟨"SongThatStaysModel", "readsStatement", "()Z"⟩, 17), (⟨"SongThatStaysModel", "sign", "()I"⟩, 17), (⟨"SongThatStaysModel", "readsNumber", "(II)Z"⟩, 17), (⟨"SongThatStaysModel", "readsKind", "(I)Z"⟩, 17), (⟨"SongThatStaysModel", "takes", "(I)Z"⟩, 17), (⟨"SongThatStaysModel", "comes", "(I)Z"⟩, 17), (⟨"SongThatStaysModel", "puts", "(III)V"⟩, 17), (⟨"SongThatStaysModel", "isHead", "(I)Z"⟩, 17), (⟨"SongThatStaysModel", "isSong", "(I)Z"⟩, 17), (⟨"SongThatStaysModel", "gets", "(II)V"⟩, 17), (⟨"SongThatStaysModel", "fresh", "(I)I"⟩, 17), (⟨"SongThatStaysModel", "of", "(II)I"⟩, 17), (⟨"SongThatStaysModel", "haveIt", "(I)I"⟩, 17), (⟨"SongThatStaysModel", "at", "(II)I"⟩, 17), (⟨"SongThatStaysModel", "bar", "(I)I"⟩, 17), (⟨"SongThatStaysModel", "hums", "(I)Z"⟩, 17)]
theorem lw_r2 : ∀ q ∈ lw_privs_2, lw_okq q := List.forall_mem_cons.mpr ⟨lw_p16, List.forall_mem_cons.mpr ⟨lw_p17, List.forall_mem_cons.mpr ⟨lw_p18, List.forall_mem_cons.mpr ⟨lw_p19, List.forall_mem_cons.mpr ⟨lw_p20, List.forall_mem_cons.mpr ⟨lw_p21, List.forall_mem_cons.mpr ⟨lw_p22, List.forall_mem_cons.mpr ⟨lw_p23, List.forall_mem_cons.mpr ⟨lw_p24, List.forall_mem_cons.mpr ⟨lw_p25, List.forall_mem_cons.mpr ⟨lw_p26, List.forall_mem_cons.mpr ⟨lw_p27, List.forall_mem_cons.mpr ⟨lw_p28, List.forall_mem_cons.mpr ⟨lw_p29, List.forall_mem_cons.mpr ⟨lw_p30, List.forall_mem_cons.mpr ⟨lw_p31, fun _ h => absurd h List.not_mem_nil⟩⟩⟩⟩⟩⟩⟩⟩⟩⟩⟩⟩⟩⟩⟩⟩
theorem lw_p32 : lw_okq (⟨"SongThatStaysModel", "areNear", "(II)Z"⟩, 17) := ⟨⟨by decide +kernel, by decide +kernel⟩, List.mem_of_getElem? (i := 700) (by decide +kernel), List.mem_of_getElem? (i := 865) (by decide +kernel), List.mem_of_getElem? (i := 866) (by decide +kernel)⟩
theorem lw_p33 : lw_okq (⟨"SongThatStaysModel", "mends", "(II)V"⟩, 17) := ⟨⟨by decide +kernel, by decide +kernel⟩, List.mem_of_getElem? (i := 700) (by decide +kernel), List.mem_of_getElem? (i := 885) (by decide +kernel), List.mem_of_getElem? (i := 886) (by decide +kernel)⟩
theorem lw_p34 : lw_okq (⟨"SongThatStaysModel", "goes", "()I"⟩, 17) := ⟨⟨by decide +kernel, by decide +kernel⟩, List.mem_of_getElem? (i := 700) (by decide +kernel), List.mem_of_getElem? (i := 897) (by decide +kernel), List.mem_of_getElem? (i := 898) (by decide +kernel)⟩
theorem lw_p35 : lw_okq (⟨"SongThatStaysModel", "hears", "(II)V"⟩, 17) := ⟨⟨by decide +kernel, by decide +kernel⟩, List.mem_of_getElem? (i := 700) (by decide +kernel), List.mem_of_getElem? (i := 901) (by decide +kernel), List.mem_of_getElem? (i := 902) (by decide +kernel)⟩
theorem lw_p36 : lw_okq (⟨"SongThatStaysModel", "wanes", "(I)V"⟩, 17) := ⟨⟨by decide +kernel, by decide +kernel⟩, List.mem_of_getElem? (i := 700) (by decide +kernel), List.mem_of_getElem? (i := 905) (by decide +kernel), List.mem_of_getElem? (i := 906) (by decide +kernel)⟩
theorem lw_p37 : lw_okq (⟨"SongThatStaysModel", "fades", "(I)I"⟩, 17) := ⟨⟨by decide +kernel, by decide +kernel⟩, List.mem_of_getElem? (i := 700) (by decide +kernel), List.mem_of_getElem? (i := 909) (by decide +kernel), List.mem_of_getElem? (i := 910) (by decide +kernel)⟩
theorem lw_p38 : lw_okq (⟨"SongThatStaysModel", "wrong", "(ZI)I"⟩, 17) := ⟨⟨by decide +kernel, by decide +kernel⟩, List.mem_of_getElem? (i := 700) (by decide +kernel), List.mem_of_getElem? (i := 917) (by decide +kernel), List.mem_of_getElem? (i := 918) (by decide +kernel)⟩
theorem lw_p39 : lw_okq (⟨"SongThatStaysModel", "begins", "()V"⟩, 17) := ⟨⟨by decide +kernel, by decide +kernel⟩, List.mem_of_getElem? (i := 700) (by decide +kernel), List.mem_of_getElem? (i := 921) (by decide +kernel), List.mem_of_getElem? (i := 922) (by decide +kernel)⟩
theorem lw_p40 : lw_okq (⟨"SongThatStaysModel", "goesFor", "(I)V"⟩, 17) := ⟨⟨by decide +kernel, by decide +kernel⟩, List.mem_of_getElem? (i := 700) (by decide +kernel), List.mem_of_getElem? (i := 925) (by decide +kernel), List.mem_of_getElem? (i := 926) (by decide +kernel)⟩
theorem lw_p41 : lw_okq (⟨"SongThatStaysModel", "ends", "()V"⟩, 17) := ⟨⟨by decide +kernel, by decide +kernel⟩, List.mem_of_getElem? (i := 700) (by decide +kernel), List.mem_of_getElem? (i := 929) (by decide +kernel), List.mem_of_getElem? (i := 930) (by decide +kernel)⟩
theorem lw_p42 : lw_okq (⟨"SongThatStaysModel", "haveBehind", "(II)I"⟩, 17) := ⟨⟨by decide +kernel, by decide +kernel⟩, List.mem_of_getElem? (i := 700) (by decide +kernel), List.mem_of_getElem? (i := 937) (by decide +kernel), List.mem_of_getElem? (i := 938) (by decide +kernel)⟩
theorem lw_p43 : lw_okq (⟨"SongThatStaysModel", "wentBy", "(IIZ)I"⟩, 17) := ⟨⟨by decide +kernel, by decide +kernel⟩, List.mem_of_getElem? (i := 700) (by decide +kernel), List.mem_of_getElem? (i := 961) (by decide +kernel), List.mem_of_getElem? (i := 962) (by decide +kernel)⟩
theorem lw_p44 : lw_okq (⟨"SongThatStaysModel", "starts", "()V"⟩, 17) := ⟨⟨by decide +kernel, by decide +kernel⟩, List.mem_of_getElem? (i := 700) (by decide +kernel), List.mem_of_getElem? (i := 965) (by decide +kernel), List.mem_of_getElem? (i := 966) (by decide +kernel)⟩
theorem lw_p45 : lw_okq (⟨"SongThatStaysModel", "ridOf", "(I)I"⟩, 17) := ⟨⟨by decide +kernel, by decide +kernel⟩, List.mem_of_getElem? (i := 700) (by decide +kernel), List.mem_of_getElem? (i := 977) (by decide +kernel), List.mem_of_getElem? (i := 978) (by decide +kernel)⟩
theorem lw_p46 : lw_okq (⟨"SongThatStaysModel", "isAllTold", "()Z"⟩, 17) := ⟨⟨by decide +kernel, by decide +kernel⟩, List.mem_of_getElem? (i := 700) (by decide +kernel), List.mem_of_getElem? (i := 1005) (by decide +kernel), List.mem_of_getElem? (i := 1006) (by decide +kernel)⟩
theorem lw_p47 : lw_okq (⟨"SongThatStaysModel", "isTold", "(I)Z"⟩, 17) := ⟨⟨by decide +kernel, by decide +kernel⟩, List.mem_of_getElem? (i := 700) (by decide +kernel), List.mem_of_getElem? (i := 1009) (by decide +kernel), List.mem_of_getElem? (i := 1010) (by decide +kernel)⟩
def lw_privs_3 : List (MethodName × Nat) := [(⟨"SongThatStaysModel", "areNear", "(II)Z"⟩, 17), (⟨"SongThatStaysModel", "mends", "(II)V"⟩, 17), (⟨"SongThatStaysModel", "goes", "()I"⟩, 17), (⟨"SongThatStaysModel", "hears", "(II)V"⟩, 17), (⟨"SongThatStaysModel", "wanes", "(I)V"⟩, 17), (⟨"SongThatStaysModel", "fades", "(I)I"⟩, 17), (⟨"SongThatStaysModel", "wrong", "(ZI)I"⟩, 17), (⟨"SongThatStaysModel", "begins", "()V"⟩, 17), (⟨"SongThatStaysModel", "goesFor", "(I)V"⟩, 17), (⟨"SongThatStaysModel", "ends", "()V"⟩, 17), (⟨"SongThatStaysModel", "haveBehind", "(II)I"⟩, 17), (⟨"SongThatStaysModel", "wentBy", "(IIZ)I"⟩, 17), (⟨"SongThatStaysModel", "starts", "()V"⟩, 17), (⟨"SongThatStaysModel", "ridOf", "(I)I"⟩, 17), (⟨"SongThatStaysModel", "isAllTold", "()Z"⟩, 17), (⟨"SongThatStaysModel", "isTold", "(I)Z"⟩, 17)]
theorem lw_r3 : ∀ q ∈ lw_privs_3, lw_okq q := List.forall_mem_cons.mpr ⟨lw_p32, List.forall_mem_cons.mpr ⟨lw_p33, List.forall_mem_cons.mpr ⟨lw_p34, List.forall_mem_cons.mpr ⟨lw_p35, List.forall_mem_cons.mpr ⟨lw_p36, List.forall_mem_cons.mpr ⟨lw_p37, List.forall_mem_cons.mpr ⟨lw_p38, List.forall_mem_cons.mpr ⟨lw_p39, List.forall_mem_cons.mpr ⟨lw_p40, List.forall_mem_cons.mpr ⟨lw_p41, List.forall_mem_cons.mpr ⟨lw_p42, List.forall_mem_cons.mpr ⟨lw_p43, List.forall_mem_cons.mpr ⟨lw_p44, List.forall_mem_cons.mpr ⟨lw_p45, List.forall_mem_cons.mpr ⟨lw_p46, List.forall_mem_cons.mpr ⟨lw_p47, fun _ h => absurd h List.not_mem_nil⟩⟩⟩⟩⟩⟩⟩⟩⟩⟩⟩⟩⟩⟩⟩⟩
def lw_privs : List (MethodName × Nat) := lw_privs_1 ++ (lw_privs_2 ++ (lw_privs_3))
def lw_tbl : List Cond := k2_sels lw_privs ++ tables_1
theorem lw_privs_ok : ∀ q ∈ lw_privs, lw_okq q := by
  show ∀ q ∈ lw_privs_1 ++ (lw_privs_2 ++ (lw_privs_3)), lw_okq q
  exact List.forall_mem_append.mpr ⟨lw_r1, List.forall_mem_append.mpr ⟨lw_r2, lw_r3⟩⟩
-- ===== end of PART A; then your names; then what follows =====
end
section
def RX0 : String := "SongThatStays$Doors"
def TX0 : u_T := fun k => match k with
  | 0 => ("SongThatStays$Doors", "one", "[I", true)
  | 1 => ("SongThatStays$Doors", "other", "[I", true)
  | 2 => ("SongThatStays$Doors", "open", "[I", true)
  | _ => ("SongThatStays$Doors", "number", "I", false)
def tyX0 : Nat → FieldType := fun k => match k with
  | 0 => .array .int
  | 1 => .array .int
  | 2 => .array .int
  | _ => .int
theorem nmX0 : ∀ a, a < 4 → ∀ b, b < 4 → a ≠ b → (TX0 a).2.1 ≠ (TX0 b).2.1 := by decide +kernel
theorem tyX0_ok : ∀ k, k < 4 → parseFieldDescriptor (TX0 k).2.2.1 = some (tyX0 k) := by decide +kernel
abbrev cX0_init : ByteArray := prog_2_method_1_code
def yX0_init : MethodName := ⟨RX0, "<init>", "()V"⟩
abbrev cX0_has : ByteArray := prog_2_method_2_code
def yX0_has : MethodName := ⟨RX0, "has", "(I)Z"⟩
abbrev cX0_add : ByteArray := prog_2_method_3_code
def yX0_add : MethodName := ⟨RX0, "add", "(II)Z"⟩
abbrev cX0_isOpen : ByteArray := prog_2_method_4_code
def yX0_isOpen : MethodName := ⟨RX0, "isOpen", "(I)Z"⟩
abbrev cX0_turn : ByteArray := prog_2_method_5_code
def yX0_turn : MethodName := ⟨RX0, "turn", "(I)I"⟩
abbrev cX0_openOnes : ByteArray := prog_2_method_6_code
def yX0_openOnes : MethodName := ⟨RX0, "openOnes", "()I"⟩
abbrev cX0_roomsHeardIn : ByteArray := prog_2_method_7_code
def yX0_roomsHeardIn : MethodName := ⟨RX0, "roomsHeardIn", "(I)I"⟩
abbrev cX0_takeAs : ByteArray := prog_2_method_8_code
def yX0_takeAs : MethodName := ⟨RX0, "takeAs", "(LSongThatStays$Doors;)V"⟩
def RX1 : String := "SongThatStays$Heads"
def TX1 : u_T := fun k => match k with
  | 0 => ("SongThatStays$Heads", "kind", "[I", true)
  | 1 => ("SongThatStays$Heads", "place", "[I", true)
  | 2 => ("SongThatStays$Heads", "resist", "[I", true)
  | 3 => ("SongThatStays$Heads", "held", "[I", true)
  | 4 => ("SongThatStays$Heads", "strength", "[I", true)
  | 5 => ("SongThatStays$Heads", "gum", "[I", true)
  | 6 => ("SongThatStays$Heads", "giver", "[I", true)
  | 7 => ("SongThatStays$Heads", "origin", "[I", true)
  | _ => ("SongThatStays$Heads", "number", "I", false)
def tyX1 : Nat → FieldType := fun k => match k with
  | 0 => .array .int
  | 1 => .array .int
  | 2 => .array .int
  | 3 => .array .int
  | 4 => .array .int
  | 5 => .array .int
  | 6 => .array .int
  | 7 => .array .int
  | _ => .int
theorem nmX1 : ∀ a, a < 9 → ∀ b, b < 9 → a ≠ b → (TX1 a).2.1 ≠ (TX1 b).2.1 := by decide +kernel
theorem tyX1_ok : ∀ k, k < 9 → parseFieldDescriptor (TX1 k).2.2.1 = some (tyX1 k) := by decide +kernel
abbrev cX1_init : ByteArray := prog_3_method_1_code
def yX1_init : MethodName := ⟨RX1, "<init>", "()V"⟩
abbrev cX1_has : ByteArray := prog_3_method_2_code
def yX1_has : MethodName := ⟨RX1, "has", "(I)Z"⟩
abbrev cX1_add : ByteArray := prog_3_method_3_code
def yX1_add : MethodName := ⟨RX1, "add", "(III)Z"⟩
abbrev cX1_hasSong : ByteArray := prog_3_method_4_code
def yX1_hasSong : MethodName := ⟨RX1, "hasSong", "(I)Z"⟩
abbrev cX1_holders : ByteArray := prog_3_method_5_code
def yX1_holders : MethodName := ⟨RX1, "holders", "(I)I"⟩
abbrev cX1_allStrength : ByteArray := prog_3_method_6_code
def yX1_allStrength : MethodName := ⟨RX1, "allStrength", "()I"⟩
abbrev cX1_bar : ByteArray := prog_3_method_7_code
def yX1_bar : MethodName := ⟨RX1, "bar", "(I)I"⟩
abbrev cX1_hums : ByteArray := prog_3_method_8_code
def yX1_hums : MethodName := ⟨RX1, "hums", "(III)Z"⟩
abbrev cX1_receive : ByteArray := prog_3_method_9_code
def yX1_receive : MethodName := ⟨RX1, "receive", "(IIIII)V"⟩
abbrev cX1_lose : ByteArray := prog_3_method_10_code
def yX1_lose : MethodName := ⟨RX1, "lose", "(I)V"⟩
abbrev cX1_weaken : ByteArray := prog_3_method_11_code
def yX1_weaken : MethodName := ⟨RX1, "weaken", "(II)V"⟩
abbrev cX1_chew : ByteArray := prog_3_method_12_code
def yX1_chew : MethodName := ⟨RX1, "chew", "(I)V"⟩
abbrev cX1_treat : ByteArray := prog_3_method_13_code
def yX1_treat : MethodName := ⟨RX1, "treat", "(II)V"⟩
abbrev cX1_changePlaces : ByteArray := prog_3_method_14_code
def yX1_changePlaces : MethodName := ⟨RX1, "changePlaces", "(II)V"⟩
abbrev cX1_takeAs : ByteArray := prog_3_method_15_code
def yX1_takeAs : MethodName := ⟨RX1, "takeAs", "(LSongThatStays$Heads;)V"⟩
def RX2 : String := "SongThatStays$Office"
def TX2 : u_T := fun k => match k with
  | 0 => ("SongThatStays$Office", "doors", "LSongThatStays$Doors;", true)
  | 1 => ("SongThatStays$Office", "songs", "LSongThatStays$Songs;", true)
  | 2 => ("SongThatStays$Office", "heads", "LSongThatStays$Heads;", true)
  | 3 => ("SongThatStays$Office", "hour", "I", false)
  | 4 => ("SongThatStays$Office", "loud", "I", false)
  | 5 => ("SongThatStays$Office", "near", "[I", true)
  | 6 => ("SongThatStays$Office", "hummed", "[I", true)
  | 7 => ("SongThatStays$Office", "gotten", "[I", true)
  | 8 => ("SongThatStays$Office", "gotFrom", "[I", true)
  | _ => ("SongThatStays$Office", "gotFirst", "[I", true)
def tyX2 : Nat → FieldType := fun k => match k with
  | 0 => .object "SongThatStays$Doors"
  | 1 => .object "SongThatStays$Songs"
  | 2 => .object "SongThatStays$Heads"
  | 3 => .int
  | 4 => .int
  | 5 => .array .int
  | 6 => .array .int
  | 7 => .array .int
  | 8 => .array .int
  | _ => .array .int
theorem nmX2 : ∀ a, a < 10 → ∀ b, b < 10 → a ≠ b → (TX2 a).2.1 ≠ (TX2 b).2.1 := by decide +kernel
theorem tyX2_ok : ∀ k, k < 10 → parseFieldDescriptor (TX2 k).2.2.1 = some (tyX2 k) := by decide +kernel
abbrev cX2_init : ByteArray := prog_4_method_1_code
def yX2_init : MethodName := ⟨RX2, "<init>", "()V"⟩
abbrev cX2_takeAs : ByteArray := prog_4_method_2_code
def yX2_takeAs : MethodName := ⟨RX2, "takeAs", "(LSongThatStays$Office;)V"⟩
abbrev cX2_nearBits : ByteArray := prog_4_method_3_code
def yX2_nearBits : MethodName := ⟨RX2, "nearBits", "(I)I"⟩
abbrev cX2_give : ByteArray := prog_4_method_4_code
def yX2_give : MethodName := ⟨RX2, "give", "(II)V"⟩
abbrev cX2_passHours : ByteArray := prog_4_method_5_code
def yX2_passHours : MethodName := ⟨RX2, "passHours", "(I)V"⟩
abbrev cX2_passHour : ByteArray := prog_4_method_6_code
def yX2_passHour : MethodName := ⟨RX2, "passHour", "()I"⟩
abbrev cX2_listen : ByteArray := prog_4_method_7_code
def yX2_listen : MethodName := ⟨RX2, "listen", "(I)V"⟩
abbrev cX2_weakening : ByteArray := prog_4_method_8_code
def yX2_weakening : MethodName := ⟨RX2, "weakening", "(I)I"⟩
def RX3 : String := "SongThatStays$Songs"
def TX3 : u_T := fun k => match k with
  | 0 => ("SongThatStays$Songs", "kind", "[I", true)
  | 1 => ("SongThatStays$Songs", "pull", "[I", true)
  | 2 => ("SongThatStays$Songs", "length", "[I", true)
  | _ => ("SongThatStays$Songs", "number", "I", false)
def tyX3 : Nat → FieldType := fun k => match k with
  | 0 => .array .int
  | 1 => .array .int
  | 2 => .array .int
  | _ => .int
theorem nmX3 : ∀ a, a < 4 → ∀ b, b < 4 → a ≠ b → (TX3 a).2.1 ≠ (TX3 b).2.1 := by decide +kernel
theorem tyX3_ok : ∀ k, k < 4 → parseFieldDescriptor (TX3 k).2.2.1 = some (tyX3 k) := by decide +kernel
abbrev cX3_init : ByteArray := prog_5_method_1_code
def yX3_init : MethodName := ⟨RX3, "<init>", "()V"⟩
abbrev cX3_has : ByteArray := prog_5_method_2_code
def yX3_has : MethodName := ⟨RX3, "has", "(I)Z"⟩
abbrev cX3_isFull : ByteArray := prog_5_method_3_code
def yX3_isFull : MethodName := ⟨RX3, "isFull", "()Z"⟩
abbrev cX3_add : ByteArray := prog_5_method_4_code
def yX3_add : MethodName := ⟨RX3, "add", "(III)Z"⟩
abbrev cX3_fresh : ByteArray := prog_5_method_5_code
def yX3_fresh : MethodName := ⟨RX3, "fresh", "(I)I"⟩
abbrev cX3_fading : ByteArray := prog_5_method_6_code
def yX3_fading : MethodName := ⟨RX3, "fading", "(II)I"⟩
abbrev cX3_isStronger : ByteArray := prog_5_method_7_code
def yX3_isStronger : MethodName := ⟨RX3, "isStronger", "(II)Z"⟩
abbrev cX3_takeAs : ByteArray := prog_5_method_8_code
def yX3_takeAs : MethodName := ⟨RX3, "takeAs", "(LSongThatStays$Songs;)V"⟩
def RX4 : String := "SongThatStays$Text"
def TX4 : u_T := fun k => match k with
  | 0 => ("SongThatStays$Text", "signs", "[I", true)
  | _ => ("SongThatStays$Text", "number", "I", false)
def tyX4 : Nat → FieldType := fun k => match k with
  | 0 => .array .int
  | _ => .int
theorem nmX4 : ∀ a, a < 2 → ∀ b, b < 2 → a ≠ b → (TX4 a).2.1 ≠ (TX4 b).2.1 := by decide +kernel
theorem tyX4_ok : ∀ k, k < 2 → parseFieldDescriptor (TX4 k).2.2.1 = some (tyX4 k) := by decide +kernel
abbrev cX4_init : ByteArray := prog_6_method_1_code
def yX4_init : MethodName := ⟨RX4, "<init>", "()V"⟩
abbrev cX4_isFull : ByteArray := prog_6_method_2_code
def yX4_isFull : MethodName := ⟨RX4, "isFull", "()Z"⟩
abbrev cX4_add : ByteArray := prog_6_method_3_code
def yX4_add : MethodName := ⟨RX4, "add", "(I)V"⟩
abbrev cX4_sign : ByteArray := prog_6_method_4_code
def yX4_sign : MethodName := ⟨RX4, "sign", "(I)I"⟩
abbrev cX4_digit : ByteArray := prog_6_method_5_code
def yX4_digit : MethodName := ⟨RX4, "digit", "(I)I"⟩
abbrev cX4_isDigit : ByteArray := prog_6_method_6_code
def yX4_isDigit : MethodName := ⟨RX4, "isDigit", "(I)Z"⟩
abbrev cX4_value : ByteArray := prog_6_method_7_code
def yX4_value : MethodName := ⟨RX4, "value", "(I)I"⟩
abbrev cX4_kind : ByteArray := prog_6_method_8_code
def yX4_kind : MethodName := ⟨RX4, "kind", "(I)I"⟩
abbrev cX4_faultPlace : ByteArray := prog_6_method_9_code
def yX4_faultPlace : MethodName := ⟨RX4, "faultPlace", "()I"⟩
abbrev cX4_behindStatement : ByteArray := prog_6_method_10_code
def yX4_behindStatement : MethodName := ⟨RX4, "behindStatement", "(I)I"⟩
def RX5 : String := "SongThatStays"
def TX5 : u_T := fun k => match k with
  | 0 => ("SongThatStays", "now", "LSongThatStays$Office;", true)
  | 1 => ("SongThatStays", "mind", "LSongThatStays$Office;", true)
  | 2 => ("SongThatStays", "kept", "LSongThatStays$Office;", true)
  | 3 => ("SongThatStays", "isKept", "Z", false)
  | 4 => ("SongThatStays", "text", "LSongThatStays$Text;", true)
  | 5 => ("SongThatStays", "told", "[I", true)
  | 6 => ("SongThatStays", "toldNumber", "I", false)
  | _ => ("SongThatStays", "refusals", "[I", true)
def tyX5 : Nat → FieldType := fun k => match k with
  | 0 => .object "SongThatStays$Office"
  | 1 => .object "SongThatStays$Office"
  | 2 => .object "SongThatStays$Office"
  | 3 => .boolean
  | 4 => .object "SongThatStays$Text"
  | 5 => .array .int
  | 6 => .int
  | _ => .array .int
theorem nmX5 : ∀ a, a < 8 → ∀ b, b < 8 → a ≠ b → (TX5 a).2.1 ≠ (TX5 b).2.1 := by decide +kernel
theorem tyX5_ok : ∀ k, k < 8 → parseFieldDescriptor (TX5 k).2.2.1 = some (tyX5 k) := by decide +kernel
abbrev cX5_init : ByteArray := prog_1_method_1_code
def yX5_init : MethodName := ⟨RX5, "<init>", "()V"⟩
abbrev cX5_letter : ByteArray := prog_1_method_2_code
def yX5_letter : MethodName := ⟨RX5, "letter", "(I)I"⟩
abbrev cX5_office : ByteArray := prog_1_method_3_code
def yX5_office : MethodName := ⟨RX5, "office", "()I"⟩
abbrev cX5_song : ByteArray := prog_1_method_4_code
def yX5_song : MethodName := ⟨RX5, "song", "(II)I"⟩
abbrev cX5_head : ByteArray := prog_1_method_5_code
def yX5_head : MethodName := ⟨RX5, "head", "(II)I"⟩
abbrev cX5_near : ByteArray := prog_1_method_6_code
def yX5_near : MethodName := ⟨RX5, "near", "(I)I"⟩
abbrev cX5_door : ByteArray := prog_1_method_7_code
def yX5_door : MethodName := ⟨RX5, "door", "(I)I"⟩
abbrev cX5_go : ByteArray := prog_1_method_8_code
def yX5_go : MethodName := ⟨RX5, "go", "(II)I"⟩
abbrev cX5_get : ByteArray := prog_1_method_9_code
def yX5_get : MethodName := ⟨RX5, "get", "(II)I"⟩
abbrev cX5_remedy : ByteArray := prog_1_method_10_code
def yX5_remedy : MethodName := ⟨RX5, "remedy", "(II)I"⟩
abbrev cX5_loud : ByteArray := prog_1_method_11_code
def yX5_loud : MethodName := ⟨RX5, "loud", "(I)I"⟩
abbrev cX5_hour : ByteArray := prog_1_method_12_code
def yX5_hour : MethodName := ⟨RX5, "hour", "()I"⟩
abbrev cX5_hold : ByteArray := prog_1_method_13_code
def yX5_hold : MethodName := ⟨RX5, "hold", "(III)I"⟩
abbrev cX5_have : ByteArray := prog_1_method_14_code
def yX5_have : MethodName := ⟨RX5, "have", "(II)I"⟩
abbrev cX5_takes : ByteArray := prog_1_method_15_code
def yX5_takes : MethodName := ⟨RX5, "takes", "(II)I"⟩
abbrev cX5_still : ByteArray := prog_1_method_16_code
def yX5_still : MethodName := ⟨RX5, "still", "()I"⟩
abbrev cX5_most : ByteArray := prog_1_method_17_code
def yX5_most : MethodName := ⟨RX5, "most", "(III)I"⟩
abbrev cX5_lasts : ByteArray := prog_1_method_18_code
def yX5_lasts : MethodName := ⟨RX5, "lasts", "(I)I"⟩
abbrev cX5_from : ByteArray := prog_1_method_19_code
def yX5_from : MethodName := ⟨RX5, "from", "(II)I"⟩
abbrev cX5_first : ByteArray := prog_1_method_20_code
def yX5_first : MethodName := ⟨RX5, "first", "(II)I"⟩
abbrev cX5_rid : ByteArray := prog_1_method_21_code
def yX5_rid : MethodName := ⟨RX5, "rid", "(II)I"⟩
abbrev cX5_instead : ByteArray := prog_1_method_22_code
def yX5_instead : MethodName := ⟨RX5, "instead", "(I)I"⟩
abbrev cX5_shut : ByteArray := prog_1_method_23_code
def yX5_shut : MethodName := ⟨RX5, "shut", "(I)I"⟩
abbrev cX5_seats : ByteArray := prog_1_method_24_code
def yX5_seats : MethodName := ⟨RX5, "seats", "(I)I"⟩
abbrev cX5_write : ByteArray := prog_1_method_25_code
def yX5_write : MethodName := ⟨RX5, "write", "(III)I"⟩
abbrev cX5_row : ByteArray := prog_1_method_26_code
def yX5_row : MethodName := ⟨RX5, "row", "(I)I"⟩
abbrev cX5_otherwise : ByteArray := prog_1_method_27_code
def yX5_otherwise : MethodName := ⟨RX5, "otherwise", "(II)I"⟩
abbrev cX5_judge : ByteArray := prog_1_method_28_code
def yX5_judge : MethodName := ⟨RX5, "judge", "()I"⟩
abbrev cX5_seeds : ByteArray := prog_1_method_29_code
def yX5_seeds : MethodName := ⟨RX5, "seeds", "(II)I"⟩
abbrev cX5_image : ByteArray := prog_1_method_30_code
def yX5_image : MethodName := ⟨RX5, "image", "()I"⟩
abbrev cX5_on : ByteArray := prog_1_method_31_code
def yX5_on : MethodName := ⟨RX5, "on", "()I"⟩
abbrev cX5_count : ByteArray := prog_1_method_32_code
def yX5_count : MethodName := ⟨RX5, "count", "(I)I"⟩
abbrev cX5_refuse : ByteArray := prog_1_method_33_code
def yX5_refuse : MethodName := ⟨RX5, "refuse", "(I)I"⟩
abbrev cX5_outside : ByteArray := prog_1_method_34_code
def yX5_outside : MethodName := ⟨RX5, "outside", "(III)I"⟩
abbrev cX5_isNeither : ByteArray := prog_1_method_35_code
def yX5_isNeither : MethodName := ⟨RX5, "isNeither", "(I)Z"⟩
abbrev cX5_isRoom : ByteArray := prog_1_method_36_code
def yX5_isRoom : MethodName := ⟨RX5, "isRoom", "(I)Z"⟩
abbrev cX5_headAndHours : ByteArray := prog_1_method_37_code
def yX5_headAndHours : MethodName := ⟨RX5, "headAndHours", "(II)I"⟩
abbrev cX5_songAndHours : ByteArray := prog_1_method_38_code
def yX5_songAndHours : MethodName := ⟨RX5, "songAndHours", "(II)I"⟩
abbrev cX5_lengthAndHours : ByteArray := prog_1_method_39_code
def yX5_lengthAndHours : MethodName := ⟨RX5, "lengthAndHours", "(II)I"⟩
abbrev cX5_at : ByteArray := prog_1_method_40_code
def yX5_at : MethodName := ⟨RX5, "at", "([II)I"⟩
abbrev cX5_put : ByteArray := prog_1_method_41_code
def yX5_put : MethodName := ⟨RX5, "put", "([III)V"⟩
abbrev cX5_copy : ByteArray := prog_1_method_42_code
def yX5_copy : MethodName := ⟨RX5, "copy", "([I[I)V"⟩
abbrev cX5_imagine : ByteArray := prog_1_method_43_code
def yX5_imagine : MethodName := ⟨RX5, "imagine", "(I)V"⟩
abbrev cX5_hoursUntilRid : ByteArray := prog_1_method_44_code
def yX5_hoursUntilRid : MethodName := ⟨RX5, "hoursUntilRid", "(I)I"⟩
abbrev cX5_holdersIfWritten : ByteArray := prog_1_method_45_code
def yX5_holdersIfWritten : MethodName := ⟨RX5, "holdersIfWritten", "(IIII)I"⟩
abbrev cX5_leadsToTold : ByteArray := prog_1_method_46_code
def yX5_leadsToTold : MethodName := ⟨RX5, "leadsToTold", "(III)Z"⟩
abbrev cX5_unlikeTold : ByteArray := prog_1_method_47_code
def yX5_unlikeTold : MethodName := ⟨RX5, "unlikeTold", "(LSongThatStays$Heads;I)I"⟩
abbrev cX5_inRow : ByteArray := prog_1_method_48_code
def yX5_inRow : MethodName := ⟨RX5, "inRow", "(I)I"⟩
abbrev cX5_obeyAll : ByteArray := prog_1_method_49_code
def yX5_obeyAll : MethodName := ⟨RX5, "obeyAll", "()I"⟩
abbrev cX5_obey : ByteArray := prog_1_method_50_code
def yX5_obey : MethodName := ⟨RX5, "obey", "(I)Z"⟩
abbrev cX5_giveInMind : ByteArray := prog_1_method_51_code
def yX5_giveInMind : MethodName := ⟨RX5, "giveInMind", "(II)Z"⟩
abbrev cX5_setLoudInMind : ByteArray := prog_1_method_52_code
def yX5_setLoudInMind : MethodName := ⟨RX5, "setLoudInMind", "(I)Z"⟩
def RX6 : String := "SongThatStaysModel"
def TX6 : u_T := fun k => match k with
  | 0 => ("SongThatStaysModel", "refusals", "[I", true)
  | 1 => ("SongThatStaysModel", "s", "[I", true)
  | 2 => ("SongThatStaysModel", "image", "[I", true)
  | 3 => ("SongThatStaysModel", "read", "[I", true)
  | 4 => ("SongThatStaysModel", "mind", "[I", true)
  | 5 => ("SongThatStaysModel", "isImage", "Z", false)
  | 6 => ("SongThatStaysModel", "heard", "[I", true)
  | 7 => ("SongThatStaysModel", "by", "[I", true)
  | 8 => ("SongThatStaysModel", "from", "[I", true)
  | 9 => ("SongThatStaysModel", "origin", "[I", true)
  | 10 => ("SongThatStaysModel", "kept", "[I", true)
  | 11 => ("SongThatStaysModel", "tape", "[I", true)
  | 12 => ("SongThatStaysModel", "told", "[I", true)
  | 13 => ("SongThatStaysModel", "taped", "I", false)
  | 14 => ("SongThatStaysModel", "place", "I", false)
  | 15 => ("SongThatStaysModel", "row", "[I", true)
  | _ => ("SongThatStaysModel", "rowed", "I", false)
def tyX6 : Nat → FieldType := fun k => match k with
  | 0 => .array .int
  | 1 => .array .int
  | 2 => .array .int
  | 3 => .array .int
  | 4 => .array .int
  | 5 => .boolean
  | 6 => .array .int
  | 7 => .array .int
  | 8 => .array .int
  | 9 => .array .int
  | 10 => .array .int
  | 11 => .array .int
  | 12 => .array .int
  | 13 => .int
  | 14 => .int
  | 15 => .array .int
  | _ => .int
theorem nmX6 : ∀ a, a < 17 → ∀ b, b < 17 → a ≠ b → (TX6 a).2.1 ≠ (TX6 b).2.1 := by decide +kernel
theorem tyX6_ok : ∀ k, k < 17 → parseFieldDescriptor (TX6 k).2.2.1 = some (tyX6 k) := by decide +kernel
abbrev cX6_init : ByteArray := prog_8_method_1_code
def yX6_init : MethodName := ⟨RX6, "<init>", "()V"⟩
abbrev cX6_refuse : ByteArray := prog_8_method_2_code
def yX6_refuse : MethodName := ⟨RX6, "refuse", "(I)I"⟩
abbrev cX6_isIn : ByteArray := prog_8_method_3_code
def yX6_isIn : MethodName := ⟨RX6, "isIn", "(II)Z"⟩
abbrev cX6_within : ByteArray := prog_8_method_4_code
def yX6_within : MethodName := ⟨RX6, "within", "(III)I"⟩
abbrev cX6_lays : ByteArray := prog_8_method_5_code
def yX6_lays : MethodName := ⟨RX6, "lays", "([I[I)V"⟩
abbrev cX6_begins : ByteArray := prog_8_method_6_code
def yX6_begins : MethodName := ⟨RX6, "begins", "()V"⟩
abbrev cX6_ends : ByteArray := prog_8_method_7_code
def yX6_ends : MethodName := ⟨RX6, "ends", "()V"⟩
abbrev cX6_isHead : ByteArray := prog_8_method_8_code
def yX6_isHead : MethodName := ⟨RX6, "isHead", "(I)Z"⟩
abbrev cX6_isSong : ByteArray := prog_8_method_9_code
def yX6_isSong : MethodName := ⟨RX6, "isSong", "(I)Z"⟩
abbrev cX6_at : ByteArray := prog_8_method_10_code
def yX6_at : MethodName := ⟨RX6, "at", "(II)I"⟩
abbrev cX6_puts : ByteArray := prog_8_method_11_code
def yX6_puts : MethodName := ⟨RX6, "puts", "(III)V"⟩
abbrev cX6_of : ByteArray := prog_8_method_12_code
def yX6_of : MethodName := ⟨RX6, "of", "(II)I"⟩
abbrev cX6_fresh : ByteArray := prog_8_method_13_code
def yX6_fresh : MethodName := ⟨RX6, "fresh", "(I)I"⟩
abbrev cX6_fades : ByteArray := prog_8_method_14_code
def yX6_fades : MethodName := ⟨RX6, "fades", "(I)I"⟩
abbrev cX6_hums : ByteArray := prog_8_method_15_code
def yX6_hums : MethodName := ⟨RX6, "hums", "(I)Z"⟩
abbrev cX6_bar : ByteArray := prog_8_method_16_code
def yX6_bar : MethodName := ⟨RX6, "bar", "(I)I"⟩
abbrev cX6_areNear : ByteArray := prog_8_method_17_code
def yX6_areNear : MethodName := ⟨RX6, "areNear", "(II)Z"⟩
abbrev cX6_gets : ByteArray := prog_8_method_18_code
def yX6_gets : MethodName := ⟨RX6, "gets", "(II)V"⟩
abbrev cX6_hears : ByteArray := prog_8_method_19_code
def yX6_hears : MethodName := ⟨RX6, "hears", "(II)V"⟩
abbrev cX6_wanes : ByteArray := prog_8_method_20_code
def yX6_wanes : MethodName := ⟨RX6, "wanes", "(I)V"⟩
abbrev cX6_goes : ByteArray := prog_8_method_21_code
def yX6_goes : MethodName := ⟨RX6, "goes", "()I"⟩
abbrev cX6_starts : ByteArray := prog_8_method_22_code
def yX6_starts : MethodName := ⟨RX6, "starts", "()V"⟩
abbrev cX6_goesFor : ByteArray := prog_8_method_23_code
def yX6_goesFor : MethodName := ⟨RX6, "goesFor", "(I)V"⟩
abbrev cX6_haveIt : ByteArray := prog_8_method_24_code
def yX6_haveIt : MethodName := ⟨RX6, "haveIt", "(I)I"⟩
abbrev cX6_haveBehind : ByteArray := prog_8_method_25_code
def yX6_haveBehind : MethodName := ⟨RX6, "haveBehind", "(II)I"⟩
abbrev cX6_letter : ByteArray := prog_8_method_26_code
def yX6_letter : MethodName := ⟨RX6, "letter", "(I)I"⟩
abbrev cX6_sign : ByteArray := prog_8_method_27_code
def yX6_sign : MethodName := ⟨RX6, "sign", "()I"⟩
abbrev cX6_takes : ByteArray := prog_8_method_28_code
def yX6_takes : MethodName := ⟨RX6, "takes", "(I)Z"⟩
abbrev cX6_readsNumber : ByteArray := prog_8_method_29_code
def yX6_readsNumber : MethodName := ⟨RX6, "readsNumber", "(II)Z"⟩
abbrev cX6_songOf : ByteArray := prog_8_method_30_code
def yX6_songOf : MethodName := ⟨RX6, "songOf", "(I)I"⟩
abbrev cX6_headOf : ByteArray := prog_8_method_31_code
def yX6_headOf : MethodName := ⟨RX6, "headOf", "(I)I"⟩
abbrev cX6_readsKind : ByteArray := prog_8_method_32_code
def yX6_readsKind : MethodName := ⟨RX6, "readsKind", "(I)Z"⟩
abbrev cX6_readsStatement : ByteArray := prog_8_method_33_code
def yX6_readsStatement : MethodName := ⟨RX6, "readsStatement", "()Z"⟩
abbrev cX6_comes : ByteArray := prog_8_method_34_code
def yX6_comes : MethodName := ⟨RX6, "comes", "(I)Z"⟩
abbrev cX6_reads : ByteArray := prog_8_method_35_code
def yX6_reads : MethodName := ⟨RX6, "reads", "()I"⟩
abbrev cX6_office : ByteArray := prog_8_method_36_code
def yX6_office : MethodName := ⟨RX6, "office", "()I"⟩
abbrev cX6_song : ByteArray := prog_8_method_37_code
def yX6_song : MethodName := ⟨RX6, "song", "(II)I"⟩
abbrev cX6_head : ByteArray := prog_8_method_38_code
def yX6_head : MethodName := ⟨RX6, "head", "(II)I"⟩
abbrev cX6_near : ByteArray := prog_8_method_39_code
def yX6_near : MethodName := ⟨RX6, "near", "(I)I"⟩
abbrev cX6_door : ByteArray := prog_8_method_40_code
def yX6_door : MethodName := ⟨RX6, "door", "(I)I"⟩
abbrev cX6_go : ByteArray := prog_8_method_41_code
def yX6_go : MethodName := ⟨RX6, "go", "(II)I"⟩
abbrev cX6_get : ByteArray := prog_8_method_42_code
def yX6_get : MethodName := ⟨RX6, "get", "(II)I"⟩
abbrev cX6_mends : ByteArray := prog_8_method_43_code
def yX6_mends : MethodName := ⟨RX6, "mends", "(II)V"⟩
abbrev cX6_remedy : ByteArray := prog_8_method_44_code
def yX6_remedy : MethodName := ⟨RX6, "remedy", "(II)I"⟩
abbrev cX6_loud : ByteArray := prog_8_method_45_code
def yX6_loud : MethodName := ⟨RX6, "loud", "(I)I"⟩
abbrev cX6_hour : ByteArray := prog_8_method_46_code
def yX6_hour : MethodName := ⟨RX6, "hour", "()I"⟩
abbrev cX6_wrong : ByteArray := prog_8_method_47_code
def yX6_wrong : MethodName := ⟨RX6, "wrong", "(ZI)I"⟩
abbrev cX6_hold : ByteArray := prog_8_method_48_code
def yX6_hold : MethodName := ⟨RX6, "hold", "(III)I"⟩
abbrev cX6_have : ByteArray := prog_8_method_49_code
def yX6_have : MethodName := ⟨RX6, "have", "(II)I"⟩
abbrev cX6_takes_ : ByteArray := prog_8_method_50_code
def yX6_takes_ : MethodName := ⟨RX6, "takes", "(II)I"⟩
abbrev cX6_still : ByteArray := prog_8_method_51_code
def yX6_still : MethodName := ⟨RX6, "still", "()I"⟩
abbrev cX6_most : ByteArray := prog_8_method_52_code
def yX6_most : MethodName := ⟨RX6, "most", "(III)I"⟩
abbrev cX6_lasts : ByteArray := prog_8_method_53_code
def yX6_lasts : MethodName := ⟨RX6, "lasts", "(I)I"⟩
abbrev cX6_wentBy : ByteArray := prog_8_method_54_code
def yX6_wentBy : MethodName := ⟨RX6, "wentBy", "(IIZ)I"⟩
abbrev cX6_from : ByteArray := prog_8_method_55_code
def yX6_from : MethodName := ⟨RX6, "from", "(II)I"⟩
abbrev cX6_first : ByteArray := prog_8_method_56_code
def yX6_first : MethodName := ⟨RX6, "first", "(II)I"⟩
abbrev cX6_ridOf : ByteArray := prog_8_method_57_code
def yX6_ridOf : MethodName := ⟨RX6, "ridOf", "(I)I"⟩
abbrev cX6_rid : ByteArray := prog_8_method_58_code
def yX6_rid : MethodName := ⟨RX6, "rid", "(II)I"⟩
abbrev cX6_instead : ByteArray := prog_8_method_59_code
def yX6_instead : MethodName := ⟨RX6, "instead", "(I)I"⟩
abbrev cX6_shut : ByteArray := prog_8_method_60_code
def yX6_shut : MethodName := ⟨RX6, "shut", "(I)I"⟩
abbrev cX6_seats : ByteArray := prog_8_method_61_code
def yX6_seats : MethodName := ⟨RX6, "seats", "(I)I"⟩
abbrev cX6_write : ByteArray := prog_8_method_62_code
def yX6_write : MethodName := ⟨RX6, "write", "(III)I"⟩
abbrev cX6_row : ByteArray := prog_8_method_63_code
def yX6_row : MethodName := ⟨RX6, "row", "(I)I"⟩
abbrev cX6_isTold : ByteArray := prog_8_method_64_code
def yX6_isTold : MethodName := ⟨RX6, "isTold", "(I)Z"⟩
abbrev cX6_isAllTold : ByteArray := prog_8_method_65_code
def yX6_isAllTold : MethodName := ⟨RX6, "isAllTold", "()Z"⟩
abbrev cX6_otherwise : ByteArray := prog_8_method_66_code
def yX6_otherwise : MethodName := ⟨RX6, "otherwise", "(II)I"⟩
abbrev cX6_judge : ByteArray := prog_8_method_67_code
def yX6_judge : MethodName := ⟨RX6, "judge", "()I"⟩
abbrev cX6_seeds : ByteArray := prog_8_method_68_code
def yX6_seeds : MethodName := ⟨RX6, "seeds", "(II)I"⟩
abbrev cX6_image : ByteArray := prog_8_method_69_code
def yX6_image : MethodName := ⟨RX6, "image", "()I"⟩
abbrev cX6_on : ByteArray := prog_8_method_70_code
def yX6_on : MethodName := ⟨RX6, "on", "()I"⟩
abbrev cX6_bits : ByteArray := prog_8_method_71_code
def yX6_bits : MethodName := ⟨RX6, "bits", "(I)I"⟩
abbrev cX6_count : ByteArray := prog_8_method_72_code
def yX6_count : MethodName := ⟨RX6, "count", "(I)I"⟩
def RJ9 : String := "java/lang/Math"
def TJ9 : u_T := fun k => match k with
  | _ => ("", "", "", false)
def tyJ9 : Nat → FieldType := fun k => match k with
  | _ => .int
theorem nmJ9 : ∀ a, a < 0 → ∀ b, b < 0 → a ≠ b → (TJ9 a).2.1 ≠ (TJ9 b).2.1 := by decide +kernel
theorem tyJ9_ok : ∀ k, k < 0 → parseFieldDescriptor (TJ9 k).2.2.1 = some (tyJ9 k) := by decide +kernel
abbrev cJ9_max_7cf53 : ByteArray := prog_10_method_65_code
def yJ9_max_7cf53 : MethodName := ⟨RJ9, "max", "(II)I"⟩
abbrev cJ9_min_7cf53 : ByteArray := prog_10_method_69_code
def yJ9_min_7cf53 : MethodName := ⟨RJ9, "min", "(II)I"⟩
def RJ0 : String := "java/lang/String"
def TJ0 : u_T := fun k => match k with
  | _ => ("", "", "", false)
def tyJ0 : Nat → FieldType := fun k => match k with
  | _ => .int
theorem nmJ0 : ∀ a, a < 0 → ∀ b, b < 0 → a ≠ b → (TJ0 a).2.1 ≠ (TJ0 b).2.1 := by decide +kernel
theorem tyJ0_ok : ∀ k, k < 0 → parseFieldDescriptor (TJ0 k).2.2.1 = some (tyJ0 k) := by decide +kernel
abbrev cJ0_length_8abf5 : ByteArray := prog_11_method_54_code
def yJ0_length_8abf5 : MethodName := ⟨RJ0, "length", "()I"⟩
abbrev cJ0_indexOf_0f7a4 : ByteArray := prog_11_method_79_code
def yJ0_indexOf_0f7a4 : MethodName := ⟨RJ0, "indexOf", "(I)I"⟩
abbrev cJ0_indexOf_7cf53 : ByteArray := prog_11_method_80_code
def yJ0_indexOf_7cf53 : MethodName := ⟨RJ0, "indexOf", "(II)I"⟩
abbrev cJ0_coder_7d493 : ByteArray := prog_11_method_152_code
def yJ0_coder_7d493 : MethodName := ⟨RJ0, "coder", "()B"⟩
abbrev cJ0_isLatin1_aae02 : ByteArray := prog_11_method_154_code
def yJ0_isLatin1_aae02 : MethodName := ⟨RJ0, "isLatin1", "()Z"⟩
abbrev cJ0_checkBoundsBeginEnd_23922 : ByteArray := prog_11_method_158_code
def yJ0_checkBoundsBeginEnd_23922 : MethodName := ⟨RJ0, "checkBoundsBeginEnd", "(III)V"⟩
def RJ1 : String := "java/lang/StringLatin1"
def TJ1 : u_T := fun k => match k with
  | _ => ("", "", "", false)
def tyJ1 : Nat → FieldType := fun k => match k with
  | _ => .int
theorem nmJ1 : ∀ a, a < 0 → ∀ b, b < 0 → a ≠ b → (TJ1 a).2.1 ≠ (TJ1 b).2.1 := by decide +kernel
theorem tyJ1_ok : ∀ k, k < 0 → parseFieldDescriptor (TJ1 k).2.2.1 = some (tyJ1 k) := by decide +kernel
abbrev cJ1_canEncode_9a6ad : ByteArray := prog_12_method_4_code
def yJ1_canEncode_9a6ad : MethodName := ⟨RJ1, "canEncode", "(I)Z"⟩
abbrev cJ1_indexOf_4cfef : ByteArray := prog_12_method_22_code
def yJ1_indexOf_4cfef : MethodName := ⟨RJ1, "indexOf", "([BIII)I"⟩
abbrev cJ1_indexOfChar_4cfef : ByteArray := prog_12_method_23_code
def yJ1_indexOfChar_4cfef : MethodName := ⟨RJ1, "indexOfChar", "([BIII)I"⟩
def RL : String := "SongThatStaysLaw"
abbrev cL_law : ByteArray := code
def yL_law : MethodName := ⟨RL, "law", "([I)Z"⟩
abbrev vwCl : List vw_C := [(RX0, TX0, 4), (RX1, TX1, 9), (RX2, TX2, 10), (RX3, TX3, 4), (RX4, TX4, 2), (RX5, TX5, 8), (RX6, TX6, 17)]
end
section
/-! the words that every contract asks: all good words of the claim's tables; and those of nest mates -/
def gw_W0 : List Cond := lw_tbl.filter goodWord
def gw_isNest : Cond → Bool
  | .fieldLinkNest .. => true
  | .methodLinkNest .. => true
  | _ => false
def gw_nest : List Cond := lw_tbl.filter gw_isNest
theorem tb_t {w : Cond} (h : w ∈ lw_tbl) (g : goodWord w = true) : w ∈ gw_W0 := List.mem_filter.mpr ⟨h, g⟩
theorem tn_t {w : Cond} (h : w ∈ lw_tbl) (g : gw_isNest w = true) : w ∈ gw_nest := List.mem_filter.mpr ⟨h, g⟩
theorem tt_p {w : Cond} (i : Nat) (h : (k2_sels lw_privs)[i]? = some w) : w ∈ lw_tbl := List.mem_append_left _ (List.mem_of_getElem? h)
theorem tt_1 {w : Cond} (i : Nat) (h : tables_1_1[i]? = some w) : w ∈ lw_tbl := List.mem_append_right _ (List.mem_append_left _ (List.mem_of_getElem? h))
theorem tt_2 {w : Cond} (i : Nat) (h : tables_1_2[i]? = some w) : w ∈ lw_tbl := List.mem_append_right _ (List.mem_append_right _ (List.mem_append_left _ (List.mem_of_getElem? h)))
theorem tt_3 {w : Cond} (i : Nat) (h : tables_1_3[i]? = some w) : w ∈ lw_tbl := List.mem_append_right _ (List.mem_append_right _ (List.mem_append_right _ (List.mem_append_left _ (List.mem_of_getElem? h))))
theorem tt_4 {w : Cond} (i : Nat) (h : tables_1_4[i]? = some w) : w ∈ lw_tbl := List.mem_append_right _ (List.mem_append_right _ (List.mem_append_right _ (List.mem_append_right _ (List.mem_append_left _ (List.mem_of_getElem? h)))))
theorem tt_5 {w : Cond} (i : Nat) (h : tables_1_5[i]? = some w) : w ∈ lw_tbl := List.mem_append_right _ (List.mem_append_right _ (List.mem_append_right _ (List.mem_append_right _ (List.mem_append_right _ (List.mem_of_getElem? h)))))
theorem tb_p {w : Cond} (i : Nat) (h : (k2_sels lw_privs)[i]? = some w) (g : goodWord w = true) : w ∈ gw_W0 := tb_t (tt_p i h) g
theorem tn_p {w : Cond} (i : Nat) (h : (k2_sels lw_privs)[i]? = some w) (g : gw_isNest w = true) : w ∈ gw_nest := tn_t (tt_p i h) g
theorem tb_1 {w : Cond} (i : Nat) (h : tables_1_1[i]? = some w) (g : goodWord w = true) : w ∈ gw_W0 := tb_t (tt_1 i h) g
theorem tn_1 {w : Cond} (i : Nat) (h : tables_1_1[i]? = some w) (g : gw_isNest w = true) : w ∈ gw_nest := tn_t (tt_1 i h) g
theorem tb_2 {w : Cond} (i : Nat) (h : tables_1_2[i]? = some w) (g : goodWord w = true) : w ∈ gw_W0 := tb_t (tt_2 i h) g
theorem tn_2 {w : Cond} (i : Nat) (h : tables_1_2[i]? = some w) (g : gw_isNest w = true) : w ∈ gw_nest := tn_t (tt_2 i h) g
theorem tb_3 {w : Cond} (i : Nat) (h : tables_1_3[i]? = some w) (g : goodWord w = true) : w ∈ gw_W0 := tb_t (tt_3 i h) g
theorem tn_3 {w : Cond} (i : Nat) (h : tables_1_3[i]? = some w) (g : gw_isNest w = true) : w ∈ gw_nest := tn_t (tt_3 i h) g
theorem tb_4 {w : Cond} (i : Nat) (h : tables_1_4[i]? = some w) (g : goodWord w = true) : w ∈ gw_W0 := tb_t (tt_4 i h) g
theorem tn_4 {w : Cond} (i : Nat) (h : tables_1_4[i]? = some w) (g : gw_isNest w = true) : w ∈ gw_nest := tn_t (tt_4 i h) g
theorem tb_5 {w : Cond} (i : Nat) (h : tables_1_5[i]? = some w) (g : goodWord w = true) : w ∈ gw_W0 := tb_t (tt_5 i h) g
theorem tn_5 {w : Cond} (i : Nat) (h : tables_1_5[i]? = some w) (g : gw_isNest w = true) : w ∈ gw_nest := tn_t (tt_5 i h) g
def gw_MI (y : MethodName) (yc : ByteArray) (n : Nat) (rt : Option FieldType) (C : String) (k : Nat) : Prop := Cond.code y yc n rt ∈ gw_W0 ∧ Cond.instanceMethod y ∈ gw_W0 ∧ Cond.selects C y y ∈ gw_W0 ∧ Cond.initialized C ∈ gw_W0 ∧ y.cls = C ∧ y.cls ≠ "java/lang/invoke/MethodHandle" ∧ y.cls ≠ "java/lang/invoke/VarHandle" ∧ (parseMethodDescriptor y.desc).map (fun d => d.parameters.length) = some k
def gw_MS (y : MethodName) (yc : ByteArray) (n : Nat) (rt : Option FieldType) (C : String) (k : Nat) : Prop := Cond.code y yc n rt ∈ gw_W0 ∧ Cond.static y ∈ gw_W0 ∧ Cond.initialized C ∈ gw_W0 ∧ y.cls = C ∧ y.cls ≠ "java/lang/invoke/MethodHandle" ∧ y.cls ≠ "java/lang/invoke/VarHandle" ∧ (parseMethodDescriptor y.desc).map (fun d => d.parameters.length) = some k
theorem mJ0_checkBoundsBeginEnd_23922 : gw_MS yJ0_checkBoundsBeginEnd_23922 cJ0_checkBoundsBeginEnd_23922 3 none RJ0 3 := ⟨tb_2 61 (by decide +kernel) rfl, tb_2 60 (by decide +kernel) rfl, tb_1 8 (by decide +kernel) rfl, rfl, by decide +kernel, by decide +kernel, by decide +kernel⟩
theorem mJ0_coder_7d493 : gw_MI yJ0_coder_7d493 cJ0_coder_7d493 1 (some .byte) RJ0 0 := ⟨tb_2 28 (by decide +kernel) rfl, tb_2 26 (by decide +kernel) rfl, tb_2 27 (by decide +kernel) rfl, tb_1 8 (by decide +kernel) rfl, rfl, by decide +kernel, by decide +kernel, by decide +kernel⟩
theorem mJ0_indexOf_0f7a4 : gw_MI yJ0_indexOf_0f7a4 cJ0_indexOf_0f7a4 2 (some .int) RJ0 1 := ⟨tb_2 10 (by decide +kernel) rfl, tb_2 8 (by decide +kernel) rfl, tb_2 9 (by decide +kernel) rfl, tb_1 8 (by decide +kernel) rfl, rfl, by decide +kernel, by decide +kernel, by decide +kernel⟩
theorem mJ0_indexOf_7cf53 : gw_MI yJ0_indexOf_7cf53 cJ0_indexOf_7cf53 3 (some .int) RJ0 2 := ⟨tb_2 14 (by decide +kernel) rfl, tb_2 12 (by decide +kernel) rfl, tb_2 13 (by decide +kernel) rfl, tb_1 8 (by decide +kernel) rfl, rfl, by decide +kernel, by decide +kernel, by decide +kernel⟩
theorem mJ0_isLatin1_aae02 : gw_MI yJ0_isLatin1_aae02 cJ0_isLatin1_aae02 1 (some .boolean) RJ0 0 := ⟨tb_2 18 (by decide +kernel) rfl, tb_2 16 (by decide +kernel) rfl, tb_2 17 (by decide +kernel) rfl, tb_1 8 (by decide +kernel) rfl, rfl, by decide +kernel, by decide +kernel, by decide +kernel⟩
theorem mJ0_length_8abf5 : gw_MI yJ0_length_8abf5 cJ0_length_8abf5 1 (some .int) RJ0 0 := ⟨tb_2 24 (by decide +kernel) rfl, tb_2 22 (by decide +kernel) rfl, tb_2 23 (by decide +kernel) rfl, tb_1 8 (by decide +kernel) rfl, rfl, by decide +kernel, by decide +kernel, by decide +kernel⟩
theorem mJ1_canEncode_9a6ad : gw_MS yJ1_canEncode_9a6ad cJ1_canEncode_9a6ad 1 (some .boolean) RJ1 1 := ⟨tb_2 34 (by decide +kernel) rfl, tb_2 33 (by decide +kernel) rfl, tb_1 9 (by decide +kernel) rfl, rfl, by decide +kernel, by decide +kernel, by decide +kernel⟩
theorem mJ1_indexOfChar_4cfef : gw_MS yJ1_indexOfChar_4cfef cJ1_indexOfChar_4cfef 6 (some .int) RJ1 4 := ⟨tb_2 43 (by decide +kernel) rfl, tb_2 42 (by decide +kernel) rfl, tb_1 9 (by decide +kernel) rfl, rfl, by decide +kernel, by decide +kernel, by decide +kernel⟩
theorem mJ1_indexOf_4cfef : gw_MS yJ1_indexOf_4cfef cJ1_indexOf_4cfef 4 (some .int) RJ1 4 := ⟨tb_2 31 (by decide +kernel) rfl, tb_2 30 (by decide +kernel) rfl, tb_1 9 (by decide +kernel) rfl, rfl, by decide +kernel, by decide +kernel, by decide +kernel⟩
theorem mJ9_max_7cf53 : gw_MS yJ9_max_7cf53 cJ9_max_7cf53 2 (some .int) RJ9 2 := ⟨tb_2 37 (by decide +kernel) rfl, tb_2 36 (by decide +kernel) rfl, tb_1 10 (by decide +kernel) rfl, rfl, by decide +kernel, by decide +kernel, by decide +kernel⟩
theorem mJ9_min_7cf53 : gw_MS yJ9_min_7cf53 cJ9_min_7cf53 2 (some .int) RJ9 2 := ⟨tb_2 40 (by decide +kernel) rfl, tb_2 39 (by decide +kernel) rfl, tb_1 10 (by decide +kernel) rfl, rfl, by decide +kernel, by decide +kernel, by decide +kernel⟩
theorem mX0_add : gw_MI yX0_add cX0_add 3 (some .boolean) RX0 2 := ⟨tb_2 145 (by decide +kernel) rfl, tb_2 143 (by decide +kernel) rfl, tb_2 144 (by decide +kernel) rfl, tb_1 3 (by decide +kernel) rfl, rfl, by decide +kernel, by decide +kernel, by decide +kernel⟩
theorem mX0_has : gw_MI yX0_has cX0_has 2 (some .boolean) RX0 1 := ⟨tb_3 8 (by decide +kernel) rfl, tb_3 6 (by decide +kernel) rfl, tb_3 7 (by decide +kernel) rfl, tb_1 3 (by decide +kernel) rfl, rfl, by decide +kernel, by decide +kernel, by decide +kernel⟩
theorem mkX0_init : Cond.code yX0_init cX0_init 1 none ∈ gw_W0 ∧ Cond.instanceMethod yX0_init ∈ gw_W0 ∧ Cond.initialized RX0 ∈ gw_W0 := ⟨tb_1 33 (by decide +kernel) rfl, tb_1 32 (by decide +kernel) rfl, tb_1 3 (by decide +kernel) rfl⟩
theorem mX0_isOpen : gw_MI yX0_isOpen cX0_isOpen 2 (some .boolean) RX0 1 := ⟨tb_3 16 (by decide +kernel) rfl, tb_3 14 (by decide +kernel) rfl, tb_3 15 (by decide +kernel) rfl, tb_1 3 (by decide +kernel) rfl, rfl, by decide +kernel, by decide +kernel, by decide +kernel⟩
theorem mX0_openOnes : gw_MI yX0_openOnes cX0_openOnes 3 (some .int) RX0 0 := ⟨tb_3 214 (by decide +kernel) rfl, tb_3 212 (by decide +kernel) rfl, tb_3 213 (by decide +kernel) rfl, tb_1 3 (by decide +kernel) rfl, rfl, by decide +kernel, by decide +kernel, by decide +kernel⟩
theorem mX0_roomsHeardIn : gw_MI yX0_roomsHeardIn cX0_roomsHeardIn 4 (some .int) RX0 1 := ⟨tb_2 239 (by decide +kernel) rfl, tb_2 237 (by decide +kernel) rfl, tb_2 238 (by decide +kernel) rfl, tb_1 3 (by decide +kernel) rfl, rfl, by decide +kernel, by decide +kernel, by decide +kernel⟩
theorem mX0_takeAs : gw_MI yX0_takeAs cX0_takeAs 2 none RX0 1 := ⟨tb_2 112 (by decide +kernel) rfl, tb_2 110 (by decide +kernel) rfl, tb_2 111 (by decide +kernel) rfl, tb_1 3 (by decide +kernel) rfl, rfl, by decide +kernel, by decide +kernel, by decide +kernel⟩
theorem mX0_turn : gw_MI yX0_turn cX0_turn 2 (some .int) RX0 1 := ⟨tb_3 12 (by decide +kernel) rfl, tb_3 10 (by decide +kernel) rfl, tb_3 11 (by decide +kernel) rfl, tb_1 3 (by decide +kernel) rfl, rfl, by decide +kernel, by decide +kernel, by decide +kernel⟩
theorem mX1_add : gw_MI yX1_add cX1_add 4 (some .boolean) RX1 3 := ⟨tb_2 163 (by decide +kernel) rfl, tb_2 161 (by decide +kernel) rfl, tb_2 162 (by decide +kernel) rfl, tb_1 5 (by decide +kernel) rfl, rfl, by decide +kernel, by decide +kernel, by decide +kernel⟩
theorem mX1_allStrength : gw_MI yX1_allStrength cX1_allStrength 3 (some .int) RX1 0 := ⟨tb_3 218 (by decide +kernel) rfl, tb_3 216 (by decide +kernel) rfl, tb_3 217 (by decide +kernel) rfl, tb_1 5 (by decide +kernel) rfl, rfl, by decide +kernel, by decide +kernel, by decide +kernel⟩
theorem mX1_bar : gw_MI yX1_bar cX1_bar 2 (some .int) RX1 1 := ⟨tb_2 222 (by decide +kernel) rfl, tb_2 220 (by decide +kernel) rfl, tb_2 221 (by decide +kernel) rfl, tb_1 5 (by decide +kernel) rfl, rfl, by decide +kernel, by decide +kernel, by decide +kernel⟩
theorem mX1_changePlaces : gw_MI yX1_changePlaces cX1_changePlaces 4 none RX1 2 := ⟨tb_3 156 (by decide +kernel) rfl, tb_3 154 (by decide +kernel) rfl, tb_3 155 (by decide +kernel) rfl, tb_1 5 (by decide +kernel) rfl, rfl, by decide +kernel, by decide +kernel, by decide +kernel⟩
theorem mX1_chew : gw_MI yX1_chew cX1_chew 2 none RX1 1 := ⟨tb_3 78 (by decide +kernel) rfl, tb_3 76 (by decide +kernel) rfl, tb_3 77 (by decide +kernel) rfl, tb_1 5 (by decide +kernel) rfl, rfl, by decide +kernel, by decide +kernel, by decide +kernel⟩
theorem mX1_has : gw_MI yX1_has cX1_has 2 (some .boolean) RX1 1 := ⟨tb_2 176 (by decide +kernel) rfl, tb_2 174 (by decide +kernel) rfl, tb_2 175 (by decide +kernel) rfl, tb_1 5 (by decide +kernel) rfl, rfl, by decide +kernel, by decide +kernel, by decide +kernel⟩
theorem mX1_hasSong : gw_MI yX1_hasSong cX1_hasSong 2 (some .boolean) RX1 1 := ⟨tb_2 133 (by decide +kernel) rfl, tb_2 131 (by decide +kernel) rfl, tb_2 132 (by decide +kernel) rfl, tb_1 5 (by decide +kernel) rfl, rfl, by decide +kernel, by decide +kernel, by decide +kernel⟩
theorem mX1_holders : gw_MI yX1_holders cX1_holders 4 (some .int) RX1 1 := ⟨tb_2 214 (by decide +kernel) rfl, tb_2 212 (by decide +kernel) rfl, tb_2 213 (by decide +kernel) rfl, tb_1 5 (by decide +kernel) rfl, rfl, by decide +kernel, by decide +kernel, by decide +kernel⟩
theorem mX1_hums : gw_MI yX1_hums cX1_hums 4 (some .boolean) RX1 3 := ⟨tb_2 226 (by decide +kernel) rfl, tb_2 224 (by decide +kernel) rfl, tb_2 225 (by decide +kernel) rfl, tb_1 5 (by decide +kernel) rfl, rfl, by decide +kernel, by decide +kernel, by decide +kernel⟩
theorem mkX1_init : Cond.code yX1_init cX1_init 1 none ∈ gw_W0 ∧ Cond.instanceMethod yX1_init ∈ gw_W0 ∧ Cond.initialized RX1 ∈ gw_W0 := ⟨tb_1 78 (by decide +kernel) rfl, tb_1 77 (by decide +kernel) rfl, tb_1 5 (by decide +kernel) rfl⟩
theorem mX1_lose : gw_MI yX1_lose cX1_lose 2 none RX1 1 := ⟨tb_2 168 (by decide +kernel) rfl, tb_2 166 (by decide +kernel) rfl, tb_2 167 (by decide +kernel) rfl, tb_1 5 (by decide +kernel) rfl, rfl, by decide +kernel, by decide +kernel, by decide +kernel⟩
theorem mX1_receive : gw_MI yX1_receive cX1_receive 6 none RX1 5 := ⟨tb_2 194 (by decide +kernel) rfl, tb_2 192 (by decide +kernel) rfl, tb_2 193 (by decide +kernel) rfl, tb_1 5 (by decide +kernel) rfl, rfl, by decide +kernel, by decide +kernel, by decide +kernel⟩
theorem mX1_takeAs : gw_MI yX1_takeAs cX1_takeAs 3 none RX1 1 := ⟨tb_2 128 (by decide +kernel) rfl, tb_2 126 (by decide +kernel) rfl, tb_2 127 (by decide +kernel) rfl, tb_1 5 (by decide +kernel) rfl, rfl, by decide +kernel, by decide +kernel, by decide +kernel⟩
theorem mX1_treat : gw_MI yX1_treat cX1_treat 3 none RX1 2 := ⟨tb_3 35 (by decide +kernel) rfl, tb_3 33 (by decide +kernel) rfl, tb_3 34 (by decide +kernel) rfl, tb_1 5 (by decide +kernel) rfl, rfl, by decide +kernel, by decide +kernel, by decide +kernel⟩
theorem mX1_weaken : gw_MI yX1_weaken cX1_weaken 4 none RX1 2 := ⟨tb_3 39 (by decide +kernel) rfl, tb_3 37 (by decide +kernel) rfl, tb_3 38 (by decide +kernel) rfl, tb_1 5 (by decide +kernel) rfl, rfl, by decide +kernel, by decide +kernel, by decide +kernel⟩
theorem mX2_give : gw_MI yX2_give cX2_give 3 none RX2 2 := ⟨tb_2 184 (by decide +kernel) rfl, tb_2 182 (by decide +kernel) rfl, tb_2 183 (by decide +kernel) rfl, tb_1 2 (by decide +kernel) rfl, rfl, by decide +kernel, by decide +kernel, by decide +kernel⟩
theorem mkX2_init : Cond.code yX2_init cX2_init 1 none ∈ gw_W0 ∧ Cond.instanceMethod yX2_init ∈ gw_W0 ∧ Cond.initialized RX2 ∈ gw_W0 := ⟨tb_1 27 (by decide +kernel) rfl, tb_1 26 (by decide +kernel) rfl, tb_1 2 (by decide +kernel) rfl⟩
theorem mX2_listen : gw_MI yX2_listen cX2_listen 7 none RX2 1 := ⟨tb_3 59 (by decide +kernel) rfl, tb_3 58 (by decide +kernel) rfl, tb_p 5 (by decide +kernel) rfl, tb_1 2 (by decide +kernel) rfl, rfl, by decide +kernel, by decide +kernel, by decide +kernel⟩
theorem mX2_nearBits : gw_MI yX2_nearBits cX2_nearBits 5 (some .int) RX2 1 := ⟨tb_2 234 (by decide +kernel) rfl, tb_2 232 (by decide +kernel) rfl, tb_2 233 (by decide +kernel) rfl, tb_1 2 (by decide +kernel) rfl, rfl, by decide +kernel, by decide +kernel, by decide +kernel⟩
theorem mX2_passHour : gw_MI yX2_passHour cX2_passHour 4 (some .int) RX2 0 := ⟨tb_3 52 (by decide +kernel) rfl, tb_3 50 (by decide +kernel) rfl, tb_3 51 (by decide +kernel) rfl, tb_1 2 (by decide +kernel) rfl, rfl, by decide +kernel, by decide +kernel, by decide +kernel⟩
theorem mX2_passHours : gw_MI yX2_passHours cX2_passHours 3 none RX2 1 := ⟨tb_3 98 (by decide +kernel) rfl, tb_3 96 (by decide +kernel) rfl, tb_3 97 (by decide +kernel) rfl, tb_1 2 (by decide +kernel) rfl, rfl, by decide +kernel, by decide +kernel, by decide +kernel⟩
theorem mX2_takeAs : gw_MI yX2_takeAs cX2_takeAs 2 none RX2 1 := ⟨tb_2 108 (by decide +kernel) rfl, tb_2 106 (by decide +kernel) rfl, tb_2 107 (by decide +kernel) rfl, tb_1 2 (by decide +kernel) rfl, rfl, by decide +kernel, by decide +kernel, by decide +kernel⟩
theorem mX2_weakening : gw_MI yX2_weakening cX2_weakening 4 (some .int) RX2 1 := ⟨tb_3 69 (by decide +kernel) rfl, tb_3 68 (by decide +kernel) rfl, tb_p 6 (by decide +kernel) rfl, tb_1 2 (by decide +kernel) rfl, rfl, by decide +kernel, by decide +kernel, by decide +kernel⟩
theorem mX3_add : gw_MI yX3_add cX3_add 4 (some .boolean) RX3 3 := ⟨tb_2 154 (by decide +kernel) rfl, tb_2 152 (by decide +kernel) rfl, tb_2 153 (by decide +kernel) rfl, tb_1 4 (by decide +kernel) rfl, rfl, by decide +kernel, by decide +kernel, by decide +kernel⟩
theorem mX3_fading : gw_MI yX3_fading cX3_fading 3 (some .int) RX3 2 := ⟨tb_3 73 (by decide +kernel) rfl, tb_3 71 (by decide +kernel) rfl, tb_3 72 (by decide +kernel) rfl, tb_1 4 (by decide +kernel) rfl, rfl, by decide +kernel, by decide +kernel, by decide +kernel⟩
theorem mX3_fresh : gw_MI yX3_fresh cX3_fresh 3 (some .int) RX3 1 := ⟨tb_2 189 (by decide +kernel) rfl, tb_2 187 (by decide +kernel) rfl, tb_2 188 (by decide +kernel) rfl, tb_1 4 (by decide +kernel) rfl, rfl, by decide +kernel, by decide +kernel, by decide +kernel⟩
theorem mX3_has : gw_MI yX3_has cX3_has 2 (some .boolean) RX3 1 := ⟨tb_2 180 (by decide +kernel) rfl, tb_2 178 (by decide +kernel) rfl, tb_2 179 (by decide +kernel) rfl, tb_1 4 (by decide +kernel) rfl, rfl, by decide +kernel, by decide +kernel, by decide +kernel⟩
theorem mkX3_init : Cond.code yX3_init cX3_init 1 none ∈ gw_W0 ∧ Cond.instanceMethod yX3_init ∈ gw_W0 ∧ Cond.initialized RX3 ∈ gw_W0 := ⟨tb_1 54 (by decide +kernel) rfl, tb_1 53 (by decide +kernel) rfl, tb_1 4 (by decide +kernel) rfl⟩
theorem mX3_isFull : gw_MI yX3_isFull cX3_isFull 1 (some .boolean) RX3 0 := ⟨tb_2 158 (by decide +kernel) rfl, tb_2 156 (by decide +kernel) rfl, tb_2 157 (by decide +kernel) rfl, tb_1 4 (by decide +kernel) rfl, rfl, by decide +kernel, by decide +kernel, by decide +kernel⟩
theorem mX3_isStronger : gw_MI yX3_isStronger cX3_isStronger 4 (some .boolean) RX3 2 := ⟨tb_3 63 (by decide +kernel) rfl, tb_3 61 (by decide +kernel) rfl, tb_3 62 (by decide +kernel) rfl, tb_1 4 (by decide +kernel) rfl, rfl, by decide +kernel, by decide +kernel, by decide +kernel⟩
theorem mX3_takeAs : gw_MI yX3_takeAs cX3_takeAs 2 none RX3 1 := ⟨tb_2 123 (by decide +kernel) rfl, tb_2 121 (by decide +kernel) rfl, tb_2 122 (by decide +kernel) rfl, tb_1 4 (by decide +kernel) rfl, rfl, by decide +kernel, by decide +kernel, by decide +kernel⟩
theorem mX4_add : gw_MI yX4_add cX4_add 2 none RX4 1 := ⟨tb_1 222 (by decide +kernel) rfl, tb_1 220 (by decide +kernel) rfl, tb_1 221 (by decide +kernel) rfl, tb_1 6 (by decide +kernel) rfl, rfl, by decide +kernel, by decide +kernel, by decide +kernel⟩
theorem mX4_behindStatement : gw_MI yX4_behindStatement cX4_behindStatement 5 (some .int) RX4 1 := ⟨tb_1 235 (by decide +kernel) rfl, tb_1 233 (by decide +kernel) rfl, tb_1 234 (by decide +kernel) rfl, tb_1 6 (by decide +kernel) rfl, rfl, by decide +kernel, by decide +kernel, by decide +kernel⟩
theorem mX4_digit : gw_MI yX4_digit cX4_digit 3 (some .int) RX4 1 := ⟨tb_2 100 (by decide +kernel) rfl, tb_2 98 (by decide +kernel) rfl, tb_2 99 (by decide +kernel) rfl, tb_1 6 (by decide +kernel) rfl, rfl, by decide +kernel, by decide +kernel, by decide +kernel⟩
theorem mX4_faultPlace : gw_MI yX4_faultPlace cX4_faultPlace 3 (some .int) RX4 0 := ⟨tb_1 231 (by decide +kernel) rfl, tb_1 229 (by decide +kernel) rfl, tb_1 230 (by decide +kernel) rfl, tb_1 6 (by decide +kernel) rfl, rfl, by decide +kernel, by decide +kernel, by decide +kernel⟩
theorem mkX4_init : Cond.code yX4_init cX4_init 1 none ∈ gw_W0 ∧ Cond.instanceMethod yX4_init ∈ gw_W0 ∧ Cond.initialized RX4 ∈ gw_W0 := ⟨tb_1 163 (by decide +kernel) rfl, tb_1 162 (by decide +kernel) rfl, tb_1 6 (by decide +kernel) rfl⟩
theorem mX4_isDigit : gw_MI yX4_isDigit cX4_isDigit 2 (some .boolean) RX4 1 := ⟨tb_2 96 (by decide +kernel) rfl, tb_2 94 (by decide +kernel) rfl, tb_2 95 (by decide +kernel) rfl, tb_1 6 (by decide +kernel) rfl, rfl, by decide +kernel, by decide +kernel, by decide +kernel⟩
theorem mX4_isFull : gw_MI yX4_isFull cX4_isFull 1 (some .boolean) RX4 0 := ⟨tb_1 218 (by decide +kernel) rfl, tb_1 216 (by decide +kernel) rfl, tb_1 217 (by decide +kernel) rfl, tb_1 6 (by decide +kernel) rfl, rfl, by decide +kernel, by decide +kernel, by decide +kernel⟩
theorem mX4_kind : gw_MI yX4_kind cX4_kind 3 (some .int) RX4 1 := ⟨tb_2 4 (by decide +kernel) rfl, tb_2 2 (by decide +kernel) rfl, tb_2 3 (by decide +kernel) rfl, tb_1 6 (by decide +kernel) rfl, rfl, by decide +kernel, by decide +kernel, by decide +kernel⟩
theorem mX4_sign : gw_MI yX4_sign cX4_sign 2 (some .int) RX4 1 := ⟨tb_1 239 (by decide +kernel) rfl, tb_1 237 (by decide +kernel) rfl, tb_1 238 (by decide +kernel) rfl, tb_1 6 (by decide +kernel) rfl, rfl, by decide +kernel, by decide +kernel, by decide +kernel⟩
theorem mX4_value : gw_MI yX4_value cX4_value 4 (some .int) RX4 1 := ⟨tb_2 199 (by decide +kernel) rfl, tb_2 197 (by decide +kernel) rfl, tb_2 198 (by decide +kernel) rfl, tb_1 6 (by decide +kernel) rfl, rfl, by decide +kernel, by decide +kernel, by decide +kernel⟩
theorem mX5_at : gw_MS yX5_at cX5_at 2 (some .int) RX5 2 := ⟨tb_1 211 (by decide +kernel) rfl, tb_1 210 (by decide +kernel) rfl, tb_1 1 (by decide +kernel) rfl, rfl, by decide +kernel, by decide +kernel, by decide +kernel⟩
theorem mX5_copy : gw_MS yX5_copy cX5_copy 2 none RX5 2 := ⟨tb_2 115 (by decide +kernel) rfl, tb_2 114 (by decide +kernel) rfl, tb_1 1 (by decide +kernel) rfl, rfl, by decide +kernel, by decide +kernel, by decide +kernel⟩
theorem mX5_count : gw_MI yX5_count cX5_count 2 (some .int) RX5 1 := ⟨tb_3 210 (by decide +kernel) rfl, tb_3 208 (by decide +kernel) rfl, tb_3 209 (by decide +kernel) rfl, tb_1 1 (by decide +kernel) rfl, rfl, by decide +kernel, by decide +kernel, by decide +kernel⟩
theorem mX5_door : gw_MI yX5_door cX5_door 2 (some .int) RX5 1 := ⟨tb_3 4 (by decide +kernel) rfl, tb_3 2 (by decide +kernel) rfl, tb_3 3 (by decide +kernel) rfl, tb_1 1 (by decide +kernel) rfl, rfl, by decide +kernel, by decide +kernel, by decide +kernel⟩
theorem mX5_first : gw_MI yX5_first cX5_first 4 (some .int) RX5 2 := ⟨tb_3 131 (by decide +kernel) rfl, tb_3 129 (by decide +kernel) rfl, tb_3 130 (by decide +kernel) rfl, tb_1 1 (by decide +kernel) rfl, rfl, by decide +kernel, by decide +kernel, by decide +kernel⟩
theorem mX5_from : gw_MI yX5_from cX5_from 4 (some .int) RX5 2 := ⟨tb_3 127 (by decide +kernel) rfl, tb_3 125 (by decide +kernel) rfl, tb_3 126 (by decide +kernel) rfl, tb_1 1 (by decide +kernel) rfl, rfl, by decide +kernel, by decide +kernel, by decide +kernel⟩
theorem mX5_get : gw_MI yX5_get cX5_get 4 (some .int) RX5 2 := ⟨tb_3 26 (by decide +kernel) rfl, tb_3 24 (by decide +kernel) rfl, tb_3 25 (by decide +kernel) rfl, tb_1 1 (by decide +kernel) rfl, rfl, by decide +kernel, by decide +kernel, by decide +kernel⟩
theorem mX5_giveInMind : gw_MI yX5_giveInMind cX5_giveInMind 3 (some .boolean) RX5 2 := ⟨tb_2 172 (by decide +kernel) rfl, tb_2 171 (by decide +kernel) rfl, tb_p 3 (by decide +kernel) rfl, tb_1 1 (by decide +kernel) rfl, rfl, by decide +kernel, by decide +kernel, by decide +kernel⟩
theorem mX5_go : gw_MI yX5_go cX5_go 4 (some .int) RX5 2 := ⟨tb_3 21 (by decide +kernel) rfl, tb_3 19 (by decide +kernel) rfl, tb_3 20 (by decide +kernel) rfl, tb_1 1 (by decide +kernel) rfl, rfl, by decide +kernel, by decide +kernel, by decide +kernel⟩
theorem mX5_have : gw_MI yX5_have cX5_have 4 (some .int) RX5 2 := ⟨tb_3 103 (by decide +kernel) rfl, tb_3 101 (by decide +kernel) rfl, tb_3 102 (by decide +kernel) rfl, tb_1 1 (by decide +kernel) rfl, rfl, by decide +kernel, by decide +kernel, by decide +kernel⟩
theorem mX5_head : gw_MI yX5_head cX5_head 3 (some .int) RX5 2 := ⟨tb_2 218 (by decide +kernel) rfl, tb_2 216 (by decide +kernel) rfl, tb_2 217 (by decide +kernel) rfl, tb_1 1 (by decide +kernel) rfl, rfl, by decide +kernel, by decide +kernel, by decide +kernel⟩
theorem mX5_headAndHours : gw_MI yX5_headAndHours cX5_headAndHours 3 (some .int) RX5 2 := ⟨tb_3 87 (by decide +kernel) rfl, tb_3 86 (by decide +kernel) rfl, tb_p 7 (by decide +kernel) rfl, tb_1 1 (by decide +kernel) rfl, rfl, by decide +kernel, by decide +kernel, by decide +kernel⟩
theorem mX5_hold : gw_MI yX5_hold cX5_hold 5 (some .int) RX5 3 := ⟨tb_3 83 (by decide +kernel) rfl, tb_3 81 (by decide +kernel) rfl, tb_3 82 (by decide +kernel) rfl, tb_1 1 (by decide +kernel) rfl, rfl, by decide +kernel, by decide +kernel, by decide +kernel⟩
theorem mX5_holdersIfWritten : gw_MI yX5_holdersIfWritten cX5_holdersIfWritten 6 (some .int) RX5 4 := ⟨tb_3 168 (by decide +kernel) rfl, tb_3 167 (by decide +kernel) rfl, tb_p 11 (by decide +kernel) rfl, tb_1 1 (by decide +kernel) rfl, rfl, by decide +kernel, by decide +kernel, by decide +kernel⟩
theorem mX5_hour : gw_MI yX5_hour cX5_hour 1 (some .int) RX5 0 := ⟨tb_3 48 (by decide +kernel) rfl, tb_3 46 (by decide +kernel) rfl, tb_3 47 (by decide +kernel) rfl, tb_1 1 (by decide +kernel) rfl, rfl, by decide +kernel, by decide +kernel, by decide +kernel⟩
theorem mX5_hoursUntilRid : gw_MI yX5_hoursUntilRid cX5_hoursUntilRid 3 (some .int) RX5 1 := ⟨tb_3 139 (by decide +kernel) rfl, tb_3 138 (by decide +kernel) rfl, tb_p 10 (by decide +kernel) rfl, tb_1 1 (by decide +kernel) rfl, rfl, by decide +kernel, by decide +kernel, by decide +kernel⟩
theorem mX5_image : gw_MI yX5_image cX5_image 1 (some .int) RX5 0 := ⟨tb_3 202 (by decide +kernel) rfl, tb_3 200 (by decide +kernel) rfl, tb_3 201 (by decide +kernel) rfl, tb_1 1 (by decide +kernel) rfl, rfl, by decide +kernel, by decide +kernel, by decide +kernel⟩
theorem mX5_imagine : gw_MI yX5_imagine cX5_imagine 2 none RX5 1 := ⟨tb_3 94 (by decide +kernel) rfl, tb_3 93 (by decide +kernel) rfl, tb_p 8 (by decide +kernel) rfl, tb_1 1 (by decide +kernel) rfl, rfl, by decide +kernel, by decide +kernel, by decide +kernel⟩
theorem mX5_inRow : gw_MS yX5_inRow cX5_inRow 1 (some .int) RX5 1 := ⟨tb_3 187 (by decide +kernel) rfl, tb_3 186 (by decide +kernel) rfl, tb_1 1 (by decide +kernel) rfl, rfl, by decide +kernel, by decide +kernel, by decide +kernel⟩
theorem mkX5_init : Cond.code yX5_init cX5_init 1 none ∈ gw_W0 ∧ Cond.instanceMethod yX5_init ∈ gw_W0 ∧ Cond.initialized RX5 ∈ gw_W0 := ⟨tb_1 19 (by decide +kernel) rfl, tb_1 18 (by decide +kernel) rfl, tb_1 1 (by decide +kernel) rfl⟩
theorem mX5_instead : gw_MI yX5_instead cX5_instead 7 (some .int) RX5 1 := ⟨tb_3 143 (by decide +kernel) rfl, tb_3 141 (by decide +kernel) rfl, tb_3 142 (by decide +kernel) rfl, tb_1 1 (by decide +kernel) rfl, rfl, by decide +kernel, by decide +kernel, by decide +kernel⟩
theorem mX5_isNeither : gw_MS yX5_isNeither cX5_isNeither 1 (some .boolean) RX5 1 := ⟨tb_3 90 (by decide +kernel) rfl, tb_3 89 (by decide +kernel) rfl, tb_1 1 (by decide +kernel) rfl, rfl, by decide +kernel, by decide +kernel, by decide +kernel⟩
theorem mX5_isRoom : gw_MS yX5_isRoom cX5_isRoom 1 (some .boolean) RX5 1 := ⟨tb_2 148 (by decide +kernel) rfl, tb_2 147 (by decide +kernel) rfl, tb_1 1 (by decide +kernel) rfl, rfl, by decide +kernel, by decide +kernel, by decide +kernel⟩
theorem mX5_judge : gw_MI yX5_judge cX5_judge 4 (some .int) RX5 0 := ⟨tb_3 191 (by decide +kernel) rfl, tb_3 189 (by decide +kernel) rfl, tb_3 190 (by decide +kernel) rfl, tb_1 1 (by decide +kernel) rfl, rfl, by decide +kernel, by decide +kernel, by decide +kernel⟩
theorem mX5_lasts : gw_MI yX5_lasts cX5_lasts 7 (some .int) RX5 1 := ⟨tb_3 123 (by decide +kernel) rfl, tb_3 121 (by decide +kernel) rfl, tb_3 122 (by decide +kernel) rfl, tb_1 1 (by decide +kernel) rfl, rfl, by decide +kernel, by decide +kernel, by decide +kernel⟩
theorem mX5_leadsToTold : gw_MI yX5_leadsToTold cX5_leadsToTold 4 (some .boolean) RX5 3 := ⟨tb_3 180 (by decide +kernel) rfl, tb_3 179 (by decide +kernel) rfl, tb_p 12 (by decide +kernel) rfl, tb_1 1 (by decide +kernel) rfl, rfl, by decide +kernel, by decide +kernel, by decide +kernel⟩
theorem mX5_lengthAndHours : gw_MS yX5_lengthAndHours cX5_lengthAndHours 2 (some .int) RX5 2 := ⟨tb_3 163 (by decide +kernel) rfl, tb_3 162 (by decide +kernel) rfl, tb_1 1 (by decide +kernel) rfl, rfl, by decide +kernel, by decide +kernel, by decide +kernel⟩
theorem mX5_letter : gw_MI yX5_letter cX5_letter 3 (some .int) RX5 1 := ⟨tb_1 201 (by decide +kernel) rfl, tb_1 199 (by decide +kernel) rfl, tb_1 200 (by decide +kernel) rfl, tb_1 1 (by decide +kernel) rfl, rfl, by decide +kernel, by decide +kernel, by decide +kernel⟩
theorem mX5_loud : gw_MI yX5_loud cX5_loud 4 (some .int) RX5 1 := ⟨tb_3 44 (by decide +kernel) rfl, tb_3 42 (by decide +kernel) rfl, tb_3 43 (by decide +kernel) rfl, tb_1 1 (by decide +kernel) rfl, rfl, by decide +kernel, by decide +kernel, by decide +kernel⟩
theorem mX5_most : gw_MI yX5_most cX5_most 9 (some .int) RX5 3 := ⟨tb_3 119 (by decide +kernel) rfl, tb_3 117 (by decide +kernel) rfl, tb_3 118 (by decide +kernel) rfl, tb_1 1 (by decide +kernel) rfl, rfl, by decide +kernel, by decide +kernel, by decide +kernel⟩
theorem mX5_near : gw_MI yX5_near cX5_near 2 (some .int) RX5 1 := ⟨tb_2 230 (by decide +kernel) rfl, tb_2 228 (by decide +kernel) rfl, tb_2 229 (by decide +kernel) rfl, tb_1 1 (by decide +kernel) rfl, rfl, by decide +kernel, by decide +kernel, by decide +kernel⟩
theorem mX5_obey : gw_MI yX5_obey cX5_obey 2 (some .boolean) RX5 1 := ⟨tb_2 139 (by decide +kernel) rfl, tb_2 138 (by decide +kernel) rfl, tb_p 2 (by decide +kernel) rfl, tb_1 1 (by decide +kernel) rfl, rfl, by decide +kernel, by decide +kernel, by decide +kernel⟩
theorem mX5_obeyAll : gw_MI yX5_obeyAll cX5_obeyAll 3 (some .int) RX5 0 := ⟨tb_2 104 (by decide +kernel) rfl, tb_2 103 (by decide +kernel) rfl, tb_p 1 (by decide +kernel) rfl, tb_1 1 (by decide +kernel) rfl, rfl, by decide +kernel, by decide +kernel, by decide +kernel⟩
theorem mX5_office : gw_MI yX5_office cX5_office 3 (some .int) RX5 0 := ⟨tb_1 227 (by decide +kernel) rfl, tb_1 225 (by decide +kernel) rfl, tb_1 226 (by decide +kernel) rfl, tb_1 1 (by decide +kernel) rfl, rfl, by decide +kernel, by decide +kernel, by decide +kernel⟩
theorem mX5_on : gw_MI yX5_on cX5_on 1 (some .int) RX5 0 := ⟨tb_3 206 (by decide +kernel) rfl, tb_3 204 (by decide +kernel) rfl, tb_3 205 (by decide +kernel) rfl, tb_1 1 (by decide +kernel) rfl, rfl, by decide +kernel, by decide +kernel, by decide +kernel⟩
theorem mX5_otherwise : gw_MI yX5_otherwise cX5_otherwise 9 (some .int) RX5 2 := ⟨tb_3 176 (by decide +kernel) rfl, tb_3 174 (by decide +kernel) rfl, tb_3 175 (by decide +kernel) rfl, tb_1 1 (by decide +kernel) rfl, rfl, by decide +kernel, by decide +kernel, by decide +kernel⟩
theorem mX5_outside : gw_MS yX5_outside cX5_outside 3 (some .int) RX5 3 := ⟨tb_1 204 (by decide +kernel) rfl, tb_1 203 (by decide +kernel) rfl, tb_1 1 (by decide +kernel) rfl, rfl, by decide +kernel, by decide +kernel, by decide +kernel⟩
theorem mX5_put : gw_MS yX5_put cX5_put 3 none RX5 3 := ⟨tb_1 214 (by decide +kernel) rfl, tb_1 213 (by decide +kernel) rfl, tb_1 1 (by decide +kernel) rfl, rfl, by decide +kernel, by decide +kernel, by decide +kernel⟩
theorem mX5_refuse : gw_MI yX5_refuse cX5_refuse 2 (some .int) RX5 1 := ⟨tb_1 208 (by decide +kernel) rfl, tb_1 207 (by decide +kernel) rfl, tb_p 0 (by decide +kernel) rfl, tb_1 1 (by decide +kernel) rfl, rfl, by decide +kernel, by decide +kernel, by decide +kernel⟩
theorem mX5_remedy : gw_MI yX5_remedy cX5_remedy 3 (some .int) RX5 2 := ⟨tb_3 30 (by decide +kernel) rfl, tb_3 28 (by decide +kernel) rfl, tb_3 29 (by decide +kernel) rfl, tb_1 1 (by decide +kernel) rfl, rfl, by decide +kernel, by decide +kernel, by decide +kernel⟩
theorem mX5_rid : gw_MI yX5_rid cX5_rid 7 (some .int) RX5 2 := ⟨tb_3 135 (by decide +kernel) rfl, tb_3 133 (by decide +kernel) rfl, tb_3 134 (by decide +kernel) rfl, tb_1 1 (by decide +kernel) rfl, rfl, by decide +kernel, by decide +kernel, by decide +kernel⟩
theorem mX5_row : gw_MI yX5_row cX5_row 3 (some .int) RX5 1 := ⟨tb_3 172 (by decide +kernel) rfl, tb_3 170 (by decide +kernel) rfl, tb_3 171 (by decide +kernel) rfl, tb_1 1 (by decide +kernel) rfl, rfl, by decide +kernel, by decide +kernel, by decide +kernel⟩
theorem mX5_seats : gw_MI yX5_seats cX5_seats 8 (some .int) RX5 1 := ⟨tb_3 152 (by decide +kernel) rfl, tb_3 150 (by decide +kernel) rfl, tb_3 151 (by decide +kernel) rfl, tb_1 1 (by decide +kernel) rfl, rfl, by decide +kernel, by decide +kernel, by decide +kernel⟩
theorem mX5_seeds : gw_MI yX5_seeds cX5_seeds 7 (some .int) RX5 2 := ⟨tb_3 195 (by decide +kernel) rfl, tb_3 193 (by decide +kernel) rfl, tb_3 194 (by decide +kernel) rfl, tb_1 1 (by decide +kernel) rfl, rfl, by decide +kernel, by decide +kernel, by decide +kernel⟩
theorem mX5_setLoudInMind : gw_MI yX5_setLoudInMind cX5_setLoudInMind 2 (some .boolean) RX5 1 := ⟨tb_2 203 (by decide +kernel) rfl, tb_2 202 (by decide +kernel) rfl, tb_p 4 (by decide +kernel) rfl, tb_1 1 (by decide +kernel) rfl, rfl, by decide +kernel, by decide +kernel, by decide +kernel⟩
theorem mX5_shut : gw_MI yX5_shut cX5_shut 7 (some .int) RX5 1 := ⟨tb_3 147 (by decide +kernel) rfl, tb_3 145 (by decide +kernel) rfl, tb_3 146 (by decide +kernel) rfl, tb_1 1 (by decide +kernel) rfl, rfl, by decide +kernel, by decide +kernel, by decide +kernel⟩
theorem mX5_song : gw_MI yX5_song cX5_song 3 (some .int) RX5 2 := ⟨tb_2 209 (by decide +kernel) rfl, tb_2 207 (by decide +kernel) rfl, tb_2 208 (by decide +kernel) rfl, tb_1 1 (by decide +kernel) rfl, rfl, by decide +kernel, by decide +kernel, by decide +kernel⟩
theorem mX5_songAndHours : gw_MI yX5_songAndHours cX5_songAndHours 3 (some .int) RX5 2 := ⟨tb_3 107 (by decide +kernel) rfl, tb_3 106 (by decide +kernel) rfl, tb_p 9 (by decide +kernel) rfl, tb_1 1 (by decide +kernel) rfl, rfl, by decide +kernel, by decide +kernel, by decide +kernel⟩
theorem mX5_still : gw_MI yX5_still cX5_still 2 (some .int) RX5 0 := ⟨tb_3 115 (by decide +kernel) rfl, tb_3 113 (by decide +kernel) rfl, tb_3 114 (by decide +kernel) rfl, tb_1 1 (by decide +kernel) rfl, rfl, by decide +kernel, by decide +kernel, by decide +kernel⟩
theorem mX5_takes : gw_MI yX5_takes cX5_takes 4 (some .int) RX5 2 := ⟨tb_3 111 (by decide +kernel) rfl, tb_3 109 (by decide +kernel) rfl, tb_3 110 (by decide +kernel) rfl, tb_1 1 (by decide +kernel) rfl, rfl, by decide +kernel, by decide +kernel, by decide +kernel⟩
theorem mX5_unlikeTold : gw_MI yX5_unlikeTold cX5_unlikeTold 4 (some .int) RX5 2 := ⟨tb_3 184 (by decide +kernel) rfl, tb_3 183 (by decide +kernel) rfl, tb_p 13 (by decide +kernel) rfl, tb_1 1 (by decide +kernel) rfl, rfl, by decide +kernel, by decide +kernel, by decide +kernel⟩
theorem mX5_write : gw_MI yX5_write cX5_write 10 (some .int) RX5 3 := ⟨tb_3 160 (by decide +kernel) rfl, tb_3 158 (by decide +kernel) rfl, tb_3 159 (by decide +kernel) rfl, tb_1 1 (by decide +kernel) rfl, rfl, by decide +kernel, by decide +kernel, by decide +kernel⟩
theorem mX6_areNear : gw_MI yX6_areNear cX6_areNear 8 (some .boolean) RX6 2 := ⟨tb_4 147 (by decide +kernel) rfl, tb_4 146 (by decide +kernel) rfl, tb_p 32 (by decide +kernel) rfl, tb_1 7 (by decide +kernel) rfl, rfl, by decide +kernel, by decide +kernel, by decide +kernel⟩
theorem mX6_at : gw_MI yX6_at cX6_at 3 (some .int) RX6 2 := ⟨tb_4 127 (by decide +kernel) rfl, tb_4 126 (by decide +kernel) rfl, tb_p 29 (by decide +kernel) rfl, tb_1 7 (by decide +kernel) rfl, rfl, by decide +kernel, by decide +kernel, by decide +kernel⟩
theorem mX6_bar : gw_MI yX6_bar cX6_bar 3 (some .int) RX6 1 := ⟨tb_4 135 (by decide +kernel) rfl, tb_4 134 (by decide +kernel) rfl, tb_p 30 (by decide +kernel) rfl, tb_1 7 (by decide +kernel) rfl, rfl, by decide +kernel, by decide +kernel, by decide +kernel⟩
theorem mX6_begins : gw_MI yX6_begins cX6_begins 1 none RX6 0 := ⟨tb_4 203 (by decide +kernel) rfl, tb_4 202 (by decide +kernel) rfl, tb_p 39 (by decide +kernel) rfl, tb_1 7 (by decide +kernel) rfl, rfl, by decide +kernel, by decide +kernel, by decide +kernel⟩
theorem mX6_bits : gw_MS yX6_bits cX6_bits 3 (some .int) RX6 1 := ⟨tb_5 77 (by decide +kernel) rfl, tb_5 76 (by decide +kernel) rfl, tb_1 7 (by decide +kernel) rfl, rfl, by decide +kernel, by decide +kernel, by decide +kernel⟩
theorem mX6_comes : gw_MI yX6_comes cX6_comes 5 (some .boolean) RX6 1 := ⟨tb_4 91 (by decide +kernel) rfl, tb_4 90 (by decide +kernel) rfl, tb_p 21 (by decide +kernel) rfl, tb_1 7 (by decide +kernel) rfl, rfl, by decide +kernel, by decide +kernel, by decide +kernel⟩
theorem mX6_count : gw_MI yX6_count cX6_count 4 (some .int) RX6 1 := ⟨tb_5 74 (by decide +kernel) rfl, tb_5 72 (by decide +kernel) rfl, tb_5 73 (by decide +kernel) rfl, tb_1 7 (by decide +kernel) rfl, rfl, by decide +kernel, by decide +kernel, by decide +kernel⟩
theorem mX6_door : gw_MI yX6_door cX6_door 2 (some .int) RX6 1 := ⟨tb_4 151 (by decide +kernel) rfl, tb_4 149 (by decide +kernel) rfl, tb_4 150 (by decide +kernel) rfl, tb_1 7 (by decide +kernel) rfl, rfl, by decide +kernel, by decide +kernel, by decide +kernel⟩
theorem mX6_ends : gw_MI yX6_ends cX6_ends 1 none RX6 0 := ⟨tb_4 211 (by decide +kernel) rfl, tb_4 210 (by decide +kernel) rfl, tb_p 41 (by decide +kernel) rfl, tb_1 7 (by decide +kernel) rfl, rfl, by decide +kernel, by decide +kernel, by decide +kernel⟩
theorem mX6_fades : gw_MI yX6_fades cX6_fades 2 (some .int) RX6 1 := ⟨tb_4 191 (by decide +kernel) rfl, tb_4 190 (by decide +kernel) rfl, tb_p 37 (by decide +kernel) rfl, tb_1 7 (by decide +kernel) rfl, rfl, by decide +kernel, by decide +kernel, by decide +kernel⟩
theorem mX6_first : gw_MI yX6_first cX6_first 3 (some .int) RX6 2 := ⟨tb_5 11 (by decide +kernel) rfl, tb_5 9 (by decide +kernel) rfl, tb_5 10 (by decide +kernel) rfl, tb_1 7 (by decide +kernel) rfl, rfl, by decide +kernel, by decide +kernel, by decide +kernel⟩
theorem mX6_fresh : gw_MI yX6_fresh cX6_fresh 4 (some .int) RX6 1 := ⟨tb_4 111 (by decide +kernel) rfl, tb_4 110 (by decide +kernel) rfl, tb_p 26 (by decide +kernel) rfl, tb_1 7 (by decide +kernel) rfl, rfl, by decide +kernel, by decide +kernel, by decide +kernel⟩
theorem mX6_from : gw_MI yX6_from cX6_from 3 (some .int) RX6 2 := ⟨tb_4 239 (by decide +kernel) rfl, tb_4 237 (by decide +kernel) rfl, tb_4 238 (by decide +kernel) rfl, tb_1 7 (by decide +kernel) rfl, rfl, by decide +kernel, by decide +kernel, by decide +kernel⟩
theorem mX6_get : gw_MI yX6_get cX6_get 4 (some .int) RX6 2 := ⟨tb_4 159 (by decide +kernel) rfl, tb_4 157 (by decide +kernel) rfl, tb_4 158 (by decide +kernel) rfl, tb_1 7 (by decide +kernel) rfl, rfl, by decide +kernel, by decide +kernel, by decide +kernel⟩
theorem mX6_gets : gw_MI yX6_gets cX6_gets 3 none RX6 2 := ⟨tb_4 107 (by decide +kernel) rfl, tb_4 106 (by decide +kernel) rfl, tb_p 25 (by decide +kernel) rfl, tb_1 7 (by decide +kernel) rfl, rfl, by decide +kernel, by decide +kernel, by decide +kernel⟩
theorem mX6_go : gw_MI yX6_go cX6_go 4 (some .int) RX6 2 := ⟨tb_4 155 (by decide +kernel) rfl, tb_4 153 (by decide +kernel) rfl, tb_4 154 (by decide +kernel) rfl, tb_1 7 (by decide +kernel) rfl, rfl, by decide +kernel, by decide +kernel, by decide +kernel⟩
theorem mX6_goes : gw_MI yX6_goes cX6_goes 4 (some .int) RX6 0 := ⟨tb_4 179 (by decide +kernel) rfl, tb_4 178 (by decide +kernel) rfl, tb_p 34 (by decide +kernel) rfl, tb_1 7 (by decide +kernel) rfl, rfl, by decide +kernel, by decide +kernel, by decide +kernel⟩
theorem mX6_goesFor : gw_MI yX6_goesFor cX6_goesFor 3 none RX6 1 := ⟨tb_4 207 (by decide +kernel) rfl, tb_4 206 (by decide +kernel) rfl, tb_p 40 (by decide +kernel) rfl, tb_1 7 (by decide +kernel) rfl, rfl, by decide +kernel, by decide +kernel, by decide +kernel⟩
theorem mX6_have : gw_MI yX6_have cX6_have 4 (some .int) RX6 2 := ⟨tb_4 215 (by decide +kernel) rfl, tb_4 213 (by decide +kernel) rfl, tb_4 214 (by decide +kernel) rfl, tb_1 7 (by decide +kernel) rfl, rfl, by decide +kernel, by decide +kernel, by decide +kernel⟩
theorem mX6_haveBehind : gw_MI yX6_haveBehind cX6_haveBehind 4 (some .int) RX6 2 := ⟨tb_4 219 (by decide +kernel) rfl, tb_4 218 (by decide +kernel) rfl, tb_p 42 (by decide +kernel) rfl, tb_1 7 (by decide +kernel) rfl, rfl, by decide +kernel, by decide +kernel, by decide +kernel⟩
theorem mX6_haveIt : gw_MI yX6_haveIt cX6_haveIt 4 (some .int) RX6 1 := ⟨tb_4 123 (by decide +kernel) rfl, tb_4 122 (by decide +kernel) rfl, tb_p 28 (by decide +kernel) rfl, tb_1 7 (by decide +kernel) rfl, rfl, by decide +kernel, by decide +kernel, by decide +kernel⟩
theorem mX6_head : gw_MI yX6_head cX6_head 3 (some .int) RX6 2 := ⟨tb_4 131 (by decide +kernel) rfl, tb_4 129 (by decide +kernel) rfl, tb_4 130 (by decide +kernel) rfl, tb_1 7 (by decide +kernel) rfl, rfl, by decide +kernel, by decide +kernel, by decide +kernel⟩
theorem mX6_headOf : gw_MS yX6_headOf cX6_headOf 1 (some .int) RX6 1 := ⟨tb_4 80 (by decide +kernel) rfl, tb_4 79 (by decide +kernel) rfl, tb_1 7 (by decide +kernel) rfl, rfl, by decide +kernel, by decide +kernel, by decide +kernel⟩
theorem mX6_hears : gw_MI yX6_hears cX6_hears 6 none RX6 2 := ⟨tb_4 183 (by decide +kernel) rfl, tb_4 182 (by decide +kernel) rfl, tb_p 35 (by decide +kernel) rfl, tb_1 7 (by decide +kernel) rfl, rfl, by decide +kernel, by decide +kernel, by decide +kernel⟩
theorem mX6_hold : gw_MI yX6_hold cX6_hold 6 (some .int) RX6 3 := ⟨tb_4 195 (by decide +kernel) rfl, tb_4 193 (by decide +kernel) rfl, tb_4 194 (by decide +kernel) rfl, tb_1 7 (by decide +kernel) rfl, rfl, by decide +kernel, by decide +kernel, by decide +kernel⟩
theorem mX6_hour : gw_MI yX6_hour cX6_hour 1 (some .int) RX6 0 := ⟨tb_4 175 (by decide +kernel) rfl, tb_4 173 (by decide +kernel) rfl, tb_4 174 (by decide +kernel) rfl, tb_1 7 (by decide +kernel) rfl, rfl, by decide +kernel, by decide +kernel, by decide +kernel⟩
theorem mX6_hums : gw_MI yX6_hums cX6_hums 2 (some .boolean) RX6 1 := ⟨tb_4 139 (by decide +kernel) rfl, tb_4 138 (by decide +kernel) rfl, tb_p 31 (by decide +kernel) rfl, tb_1 7 (by decide +kernel) rfl, rfl, by decide +kernel, by decide +kernel, by decide +kernel⟩
theorem mX6_image : gw_MI yX6_image cX6_image 1 (some .int) RX6 0 := ⟨tb_5 66 (by decide +kernel) rfl, tb_5 64 (by decide +kernel) rfl, tb_5 65 (by decide +kernel) rfl, tb_1 7 (by decide +kernel) rfl, rfl, by decide +kernel, by decide +kernel, by decide +kernel⟩
theorem mkX6_init : Cond.code yX6_init cX6_init 1 none ∈ gw_W0 ∧ Cond.instanceMethod yX6_init ∈ gw_W0 ∧ Cond.initialized RX6 ∈ gw_W0 := ⟨tb_3 223 (by decide +kernel) rfl, tb_3 222 (by decide +kernel) rfl, tb_1 7 (by decide +kernel) rfl⟩
theorem mX6_instead : gw_MI yX6_instead cX6_instead 8 (some .int) RX6 1 := ⟨tb_5 23 (by decide +kernel) rfl, tb_5 21 (by decide +kernel) rfl, tb_5 22 (by decide +kernel) rfl, tb_1 7 (by decide +kernel) rfl, rfl, by decide +kernel, by decide +kernel, by decide +kernel⟩
theorem mX6_isAllTold : gw_MI yX6_isAllTold cX6_isAllTold 2 (some .boolean) RX6 0 := ⟨tb_5 47 (by decide +kernel) rfl, tb_5 46 (by decide +kernel) rfl, tb_p 46 (by decide +kernel) rfl, tb_1 7 (by decide +kernel) rfl, rfl, by decide +kernel, by decide +kernel, by decide +kernel⟩
theorem mX6_isHead : gw_MI yX6_isHead cX6_isHead 2 (some .boolean) RX6 1 := ⟨tb_4 99 (by decide +kernel) rfl, tb_4 98 (by decide +kernel) rfl, tb_p 23 (by decide +kernel) rfl, tb_1 7 (by decide +kernel) rfl, rfl, by decide +kernel, by decide +kernel, by decide +kernel⟩
theorem mX6_isIn : gw_MS yX6_isIn cX6_isIn 2 (some .boolean) RX6 2 := ⟨tb_4 70 (by decide +kernel) rfl, tb_4 69 (by decide +kernel) rfl, tb_1 7 (by decide +kernel) rfl, rfl, by decide +kernel, by decide +kernel, by decide +kernel⟩
theorem mX6_isSong : gw_MI yX6_isSong cX6_isSong 2 (some .boolean) RX6 1 := ⟨tb_4 103 (by decide +kernel) rfl, tb_4 102 (by decide +kernel) rfl, tb_p 24 (by decide +kernel) rfl, tb_1 7 (by decide +kernel) rfl, rfl, by decide +kernel, by decide +kernel, by decide +kernel⟩
theorem mX6_isTold : gw_MI yX6_isTold cX6_isTold 2 (some .boolean) RX6 1 := ⟨tb_5 51 (by decide +kernel) rfl, tb_5 50 (by decide +kernel) rfl, tb_p 47 (by decide +kernel) rfl, tb_1 7 (by decide +kernel) rfl, rfl, by decide +kernel, by decide +kernel, by decide +kernel⟩
theorem mX6_judge : gw_MI yX6_judge cX6_judge 3 (some .int) RX6 0 := ⟨tb_5 55 (by decide +kernel) rfl, tb_5 53 (by decide +kernel) rfl, tb_5 54 (by decide +kernel) rfl, tb_1 7 (by decide +kernel) rfl, rfl, by decide +kernel, by decide +kernel, by decide +kernel⟩
theorem mX6_lasts : gw_MI yX6_lasts cX6_lasts 6 (some .int) RX6 1 := ⟨tb_4 235 (by decide +kernel) rfl, tb_4 233 (by decide +kernel) rfl, tb_4 234 (by decide +kernel) rfl, tb_1 7 (by decide +kernel) rfl, rfl, by decide +kernel, by decide +kernel, by decide +kernel⟩
theorem mX6_lays : gw_MS yX6_lays cX6_lays 3 none RX6 2 := ⟨tb_4 87 (by decide +kernel) rfl, tb_4 86 (by decide +kernel) rfl, tb_1 7 (by decide +kernel) rfl, rfl, by decide +kernel, by decide +kernel, by decide +kernel⟩
theorem mX6_letter : gw_MI yX6_letter cX6_letter 3 (some .int) RX6 1 := ⟨tb_4 40 (by decide +kernel) rfl, tb_4 38 (by decide +kernel) rfl, tb_4 39 (by decide +kernel) rfl, tb_1 7 (by decide +kernel) rfl, rfl, by decide +kernel, by decide +kernel, by decide +kernel⟩
theorem mX6_loud : gw_MI yX6_loud cX6_loud 4 (some .int) RX6 1 := ⟨tb_4 171 (by decide +kernel) rfl, tb_4 169 (by decide +kernel) rfl, tb_4 170 (by decide +kernel) rfl, tb_1 7 (by decide +kernel) rfl, rfl, by decide +kernel, by decide +kernel, by decide +kernel⟩
theorem mX6_mends : gw_MI yX6_mends cX6_mends 4 none RX6 2 := ⟨tb_4 167 (by decide +kernel) rfl, tb_4 166 (by decide +kernel) rfl, tb_p 33 (by decide +kernel) rfl, tb_1 7 (by decide +kernel) rfl, rfl, by decide +kernel, by decide +kernel, by decide +kernel⟩
theorem mX6_most : gw_MI yX6_most cX6_most 9 (some .int) RX6 3 := ⟨tb_4 231 (by decide +kernel) rfl, tb_4 229 (by decide +kernel) rfl, tb_4 230 (by decide +kernel) rfl, tb_1 7 (by decide +kernel) rfl, rfl, by decide +kernel, by decide +kernel, by decide +kernel⟩
theorem mX6_near : gw_MI yX6_near cX6_near 4 (some .int) RX6 1 := ⟨tb_4 143 (by decide +kernel) rfl, tb_4 141 (by decide +kernel) rfl, tb_4 142 (by decide +kernel) rfl, tb_1 7 (by decide +kernel) rfl, rfl, by decide +kernel, by decide +kernel, by decide +kernel⟩
theorem mX6_of : gw_MI yX6_of cX6_of 3 (some .int) RX6 2 := ⟨tb_4 115 (by decide +kernel) rfl, tb_4 114 (by decide +kernel) rfl, tb_p 27 (by decide +kernel) rfl, tb_1 7 (by decide +kernel) rfl, rfl, by decide +kernel, by decide +kernel, by decide +kernel⟩
theorem mX6_office : gw_MI yX6_office cX6_office 2 (some .int) RX6 0 := ⟨tb_4 51 (by decide +kernel) rfl, tb_4 49 (by decide +kernel) rfl, tb_4 50 (by decide +kernel) rfl, tb_1 7 (by decide +kernel) rfl, rfl, by decide +kernel, by decide +kernel, by decide +kernel⟩
theorem mX6_on : gw_MI yX6_on cX6_on 1 (some .int) RX6 0 := ⟨tb_5 70 (by decide +kernel) rfl, tb_5 68 (by decide +kernel) rfl, tb_5 69 (by decide +kernel) rfl, tb_1 7 (by decide +kernel) rfl, rfl, by decide +kernel, by decide +kernel, by decide +kernel⟩
theorem mX6_otherwise : gw_MI yX6_otherwise cX6_otherwise 10 (some .int) RX6 2 := ⟨tb_5 43 (by decide +kernel) rfl, tb_5 41 (by decide +kernel) rfl, tb_5 42 (by decide +kernel) rfl, tb_1 7 (by decide +kernel) rfl, rfl, by decide +kernel, by decide +kernel, by decide +kernel⟩
theorem mX6_puts : gw_MI yX6_puts cX6_puts 4 none RX6 3 := ⟨tb_4 95 (by decide +kernel) rfl, tb_4 94 (by decide +kernel) rfl, tb_p 22 (by decide +kernel) rfl, tb_1 7 (by decide +kernel) rfl, rfl, by decide +kernel, by decide +kernel, by decide +kernel⟩
theorem mX6_reads : gw_MI yX6_reads cX6_reads 5 (some .int) RX6 0 := ⟨tb_4 55 (by decide +kernel) rfl, tb_4 54 (by decide +kernel) rfl, tb_p 15 (by decide +kernel) rfl, tb_1 7 (by decide +kernel) rfl, rfl, by decide +kernel, by decide +kernel, by decide +kernel⟩
theorem mX6_readsKind : gw_MI yX6_readsKind cX6_readsKind 2 (some .boolean) RX6 1 := ⟨tb_4 77 (by decide +kernel) rfl, tb_4 76 (by decide +kernel) rfl, tb_p 19 (by decide +kernel) rfl, tb_1 7 (by decide +kernel) rfl, rfl, by decide +kernel, by decide +kernel, by decide +kernel⟩
theorem mX6_readsNumber : gw_MI yX6_readsNumber cX6_readsNumber 4 (some .boolean) RX6 2 := ⟨tb_4 67 (by decide +kernel) rfl, tb_4 66 (by decide +kernel) rfl, tb_p 18 (by decide +kernel) rfl, tb_1 7 (by decide +kernel) rfl, rfl, by decide +kernel, by decide +kernel, by decide +kernel⟩
theorem mX6_readsStatement : gw_MI yX6_readsStatement cX6_readsStatement 3 (some .boolean) RX6 0 := ⟨tb_4 59 (by decide +kernel) rfl, tb_4 58 (by decide +kernel) rfl, tb_p 16 (by decide +kernel) rfl, tb_1 7 (by decide +kernel) rfl, rfl, by decide +kernel, by decide +kernel, by decide +kernel⟩
theorem mX6_refuse : gw_MI yX6_refuse cX6_refuse 2 (some .int) RX6 1 := ⟨tb_4 47 (by decide +kernel) rfl, tb_4 46 (by decide +kernel) rfl, tb_p 14 (by decide +kernel) rfl, tb_1 7 (by decide +kernel) rfl, rfl, by decide +kernel, by decide +kernel, by decide +kernel⟩
theorem mX6_remedy : gw_MI yX6_remedy cX6_remedy 4 (some .int) RX6 2 := ⟨tb_4 163 (by decide +kernel) rfl, tb_4 161 (by decide +kernel) rfl, tb_4 162 (by decide +kernel) rfl, tb_1 7 (by decide +kernel) rfl, rfl, by decide +kernel, by decide +kernel, by decide +kernel⟩
theorem mX6_rid : gw_MI yX6_rid cX6_rid 8 (some .int) RX6 2 := ⟨tb_5 15 (by decide +kernel) rfl, tb_5 13 (by decide +kernel) rfl, tb_5 14 (by decide +kernel) rfl, tb_1 7 (by decide +kernel) rfl, rfl, by decide +kernel, by decide +kernel, by decide +kernel⟩
theorem mX6_ridOf : gw_MI yX6_ridOf cX6_ridOf 4 (some .int) RX6 1 := ⟨tb_5 19 (by decide +kernel) rfl, tb_5 18 (by decide +kernel) rfl, tb_p 45 (by decide +kernel) rfl, tb_1 7 (by decide +kernel) rfl, rfl, by decide +kernel, by decide +kernel, by decide +kernel⟩
theorem mX6_row : gw_MI yX6_row cX6_row 3 (some .int) RX6 1 := ⟨tb_5 39 (by decide +kernel) rfl, tb_5 37 (by decide +kernel) rfl, tb_5 38 (by decide +kernel) rfl, tb_1 7 (by decide +kernel) rfl, rfl, by decide +kernel, by decide +kernel, by decide +kernel⟩
theorem mX6_seats : gw_MI yX6_seats cX6_seats 9 (some .int) RX6 1 := ⟨tb_5 31 (by decide +kernel) rfl, tb_5 29 (by decide +kernel) rfl, tb_5 30 (by decide +kernel) rfl, tb_1 7 (by decide +kernel) rfl, rfl, by decide +kernel, by decide +kernel, by decide +kernel⟩
theorem mX6_seeds : gw_MI yX6_seeds cX6_seeds 7 (some .int) RX6 2 := ⟨tb_5 59 (by decide +kernel) rfl, tb_5 57 (by decide +kernel) rfl, tb_5 58 (by decide +kernel) rfl, tb_1 7 (by decide +kernel) rfl, rfl, by decide +kernel, by decide +kernel, by decide +kernel⟩
theorem mX6_shut : gw_MI yX6_shut cX6_shut 7 (some .int) RX6 1 := ⟨tb_5 27 (by decide +kernel) rfl, tb_5 25 (by decide +kernel) rfl, tb_5 26 (by decide +kernel) rfl, tb_1 7 (by decide +kernel) rfl, rfl, by decide +kernel, by decide +kernel, by decide +kernel⟩
theorem mX6_sign : gw_MI yX6_sign cX6_sign 1 (some .int) RX6 0 := ⟨tb_4 63 (by decide +kernel) rfl, tb_4 62 (by decide +kernel) rfl, tb_p 17 (by decide +kernel) rfl, tb_1 7 (by decide +kernel) rfl, rfl, by decide +kernel, by decide +kernel, by decide +kernel⟩
theorem mX6_song : gw_MI yX6_song cX6_song 3 (some .int) RX6 2 := ⟨tb_4 119 (by decide +kernel) rfl, tb_4 117 (by decide +kernel) rfl, tb_4 118 (by decide +kernel) rfl, tb_1 7 (by decide +kernel) rfl, rfl, by decide +kernel, by decide +kernel, by decide +kernel⟩
theorem mX6_songOf : gw_MS yX6_songOf cX6_songOf 1 (some .int) RX6 1 := ⟨tb_4 73 (by decide +kernel) rfl, tb_4 72 (by decide +kernel) rfl, tb_1 7 (by decide +kernel) rfl, rfl, by decide +kernel, by decide +kernel, by decide +kernel⟩
theorem mX6_starts : gw_MI yX6_starts cX6_starts 2 none RX6 0 := ⟨tb_5 7 (by decide +kernel) rfl, tb_5 6 (by decide +kernel) rfl, tb_p 44 (by decide +kernel) rfl, tb_1 7 (by decide +kernel) rfl, rfl, by decide +kernel, by decide +kernel, by decide +kernel⟩
theorem mX6_still : gw_MI yX6_still cX6_still 3 (some .int) RX6 0 := ⟨tb_4 227 (by decide +kernel) rfl, tb_4 225 (by decide +kernel) rfl, tb_4 226 (by decide +kernel) rfl, tb_1 7 (by decide +kernel) rfl, rfl, by decide +kernel, by decide +kernel, by decide +kernel⟩
theorem mX6_takes : gw_MI yX6_takes cX6_takes 2 (some .boolean) RX6 1 := ⟨tb_4 84 (by decide +kernel) rfl, tb_4 83 (by decide +kernel) rfl, tb_p 20 (by decide +kernel) rfl, tb_1 7 (by decide +kernel) rfl, rfl, by decide +kernel, by decide +kernel, by decide +kernel⟩
theorem mX6_takes_ : gw_MI yX6_takes_ cX6_takes_ 5 (some .int) RX6 2 := ⟨tb_4 223 (by decide +kernel) rfl, tb_4 221 (by decide +kernel) rfl, tb_4 222 (by decide +kernel) rfl, tb_1 7 (by decide +kernel) rfl, rfl, by decide +kernel, by decide +kernel, by decide +kernel⟩
theorem mX6_wanes : gw_MI yX6_wanes cX6_wanes 4 none RX6 1 := ⟨tb_4 187 (by decide +kernel) rfl, tb_4 186 (by decide +kernel) rfl, tb_p 36 (by decide +kernel) rfl, tb_1 7 (by decide +kernel) rfl, rfl, by decide +kernel, by decide +kernel, by decide +kernel⟩
theorem mX6_wentBy : gw_MI yX6_wentBy cX6_wentBy 6 (some .int) RX6 3 := ⟨tb_5 3 (by decide +kernel) rfl, tb_5 2 (by decide +kernel) rfl, tb_p 43 (by decide +kernel) rfl, tb_1 7 (by decide +kernel) rfl, rfl, by decide +kernel, by decide +kernel, by decide +kernel⟩
theorem mX6_within : gw_MS yX6_within cX6_within 3 (some .int) RX6 3 := ⟨tb_4 43 (by decide +kernel) rfl, tb_4 42 (by decide +kernel) rfl, tb_1 7 (by decide +kernel) rfl, rfl, by decide +kernel, by decide +kernel, by decide +kernel⟩
theorem mX6_write : gw_MI yX6_write cX6_write 10 (some .int) RX6 3 := ⟨tb_5 35 (by decide +kernel) rfl, tb_5 33 (by decide +kernel) rfl, tb_5 34 (by decide +kernel) rfl, tb_1 7 (by decide +kernel) rfl, rfl, by decide +kernel, by decide +kernel, by decide +kernel⟩
theorem mX6_wrong : gw_MI yX6_wrong cX6_wrong 3 (some .int) RX6 2 := ⟨tb_4 199 (by decide +kernel) rfl, tb_4 198 (by decide +kernel) rfl, tb_p 38 (by decide +kernel) rfl, tb_1 7 (by decide +kernel) rfl, rfl, by decide +kernel, by decide +kernel, by decide +kernel⟩
theorem lcX2_18 : Cond.classLink RX2 18 "SongThatStays$Songs" ∈ gw_W0 := tb_1 50 (by decide +kernel) rfl
theorem lcX2_25 : Cond.classLink RX2 25 "SongThatStays$Heads" ∈ gw_W0 := tb_1 74 (by decide +kernel) rfl
theorem lcX2_9 : Cond.classLink RX2 9 "SongThatStays$Doors" ∈ gw_W0 := tb_1 29 (by decide +kernel) rfl
theorem lcX5_26 : Cond.classLink RX5 26 "SongThatStays$Text" ∈ gw_W0 := tb_1 159 (by decide +kernel) rfl
theorem lcX5_7 : Cond.classLink RX5 7 "SongThatStays$Office" ∈ gw_W0 := tb_1 23 (by decide +kernel) rfl
theorem lcL_10 : Cond.classLink RL 10 "SongThatStaysModel" ∈ gw_W0 := tb_3 219 (by decide +kernel) rfl
theorem lcL_7 : Cond.classLink RL 7 "SongThatStays" ∈ gw_W0 := tb_1 15 (by decide +kernel) rfl
theorem lkX5_229 : Cond.constant RX5 229 1664525 ∈ gw_W0 := tb_3 196 (by decide +kernel) rfl
theorem lkX5_230 : Cond.constant RX5 230 1013904223 ∈ gw_W0 := tb_3 197 (by decide +kernel) rfl
theorem lkX5_233 : Cond.constant RX5 233 2147483647 ∈ gw_W0 := tb_3 198 (by decide +kernel) rfl
theorem lkX6_189 : Cond.constant RX6 189 1664525 ∈ gw_W0 := tb_5 60 (by decide +kernel) rfl
theorem lkX6_190 : Cond.constant RX6 190 1013904223 ∈ gw_W0 := tb_5 61 (by decide +kernel) rfl
theorem lkX6_191 : Cond.constant RX6 191 2147483647 ∈ gw_W0 := tb_5 62 (by decide +kernel) rfl
theorem lfX0_15 : Cond.fieldLink RX0 15 "SongThatStays$Doors" "other" "[I" ∈ gw_W0 := tb_1 36 (by decide +kernel) rfl
theorem lfX0_18 : Cond.fieldLink RX0 18 "SongThatStays$Doors" "open" "[I" ∈ gw_W0 := tb_1 37 (by decide +kernel) rfl
theorem lfX0_21 : Cond.fieldLink RX0 21 "SongThatStays$Doors" "number" "I" ∈ gw_W0 := tb_1 38 (by decide +kernel) rfl
theorem lfX0_9 : Cond.fieldLink RX0 9 "SongThatStays$Doors" "one" "[I" ∈ gw_W0 := tb_1 35 (by decide +kernel) rfl
theorem lfX1_15 : Cond.fieldLink RX1 15 "SongThatStays$Heads" "place" "[I" ∈ gw_W0 := tb_1 82 (by decide +kernel) rfl
theorem lfX1_18 : Cond.fieldLink RX1 18 "SongThatStays$Heads" "resist" "[I" ∈ gw_W0 := tb_1 85 (by decide +kernel) rfl
theorem lfX1_21 : Cond.fieldLink RX1 21 "SongThatStays$Heads" "held" "[I" ∈ gw_W0 := tb_1 87 (by decide +kernel) rfl
theorem lfX1_24 : Cond.fieldLink RX1 24 "SongThatStays$Heads" "strength" "[I" ∈ gw_W0 := tb_1 90 (by decide +kernel) rfl
theorem lfX1_27 : Cond.fieldLink RX1 27 "SongThatStays$Heads" "gum" "[I" ∈ gw_W0 := tb_1 93 (by decide +kernel) rfl
theorem lfX1_30 : Cond.fieldLink RX1 30 "SongThatStays$Heads" "giver" "[I" ∈ gw_W0 := tb_1 96 (by decide +kernel) rfl
theorem lfX1_33 : Cond.fieldLink RX1 33 "SongThatStays$Heads" "origin" "[I" ∈ gw_W0 := tb_1 98 (by decide +kernel) rfl
theorem lfX1_36 : Cond.fieldLink RX1 36 "SongThatStays$Heads" "number" "I" ∈ gw_W0 := tb_1 101 (by decide +kernel) rfl
theorem lfX1_9 : Cond.fieldLink RX1 9 "SongThatStays$Heads" "kind" "[I" ∈ gw_W0 := tb_1 80 (by decide +kernel) rfl
theorem lfX2_12 : Cond.fieldLink RX2 12 "SongThatStays$Office" "doors" "LSongThatStays$Doors;" ∈ gw_W0 := tb_1 123 (by decide +kernel) rfl
theorem lfX2_21 : Cond.fieldLink RX2 21 "SongThatStays$Office" "songs" "LSongThatStays$Songs;" ∈ gw_W0 := tb_1 125 (by decide +kernel) rfl
theorem lfX2_28 : Cond.fieldLink RX2 28 "SongThatStays$Office" "heads" "LSongThatStays$Heads;" ∈ gw_W0 := tb_1 127 (by decide +kernel) rfl
theorem lfX2_32 : Cond.fieldLink RX2 32 "SongThatStays$Office" "hour" "I" ∈ gw_W0 := tb_1 129 (by decide +kernel) rfl
theorem lfX2_36 : Cond.fieldLink RX2 36 "SongThatStays$Office" "loud" "I" ∈ gw_W0 := tb_1 131 (by decide +kernel) rfl
theorem lfX2_39 : Cond.fieldLink RX2 39 "SongThatStays$Office" "near" "[I" ∈ gw_W0 := tb_1 133 (by decide +kernel) rfl
theorem lfX2_43 : Cond.fieldLink RX2 43 "SongThatStays$Office" "hummed" "[I" ∈ gw_W0 := tb_1 134 (by decide +kernel) rfl
theorem lfX2_46 : Cond.fieldLink RX2 46 "SongThatStays$Office" "gotten" "[I" ∈ gw_W0 := tb_1 135 (by decide +kernel) rfl
theorem lfX2_49 : Cond.fieldLink RX2 49 "SongThatStays$Office" "gotFrom" "[I" ∈ gw_W0 := tb_1 136 (by decide +kernel) rfl
theorem lfX2_52 : Cond.fieldLink RX2 52 "SongThatStays$Office" "gotFirst" "[I" ∈ gw_W0 := tb_1 137 (by decide +kernel) rfl
theorem lfX3_15 : Cond.fieldLink RX3 15 "SongThatStays$Songs" "pull" "[I" ∈ gw_W0 := tb_1 58 (by decide +kernel) rfl
theorem lfX3_18 : Cond.fieldLink RX3 18 "SongThatStays$Songs" "length" "[I" ∈ gw_W0 := tb_1 61 (by decide +kernel) rfl
theorem lfX3_21 : Cond.fieldLink RX3 21 "SongThatStays$Songs" "number" "I" ∈ gw_W0 := tb_1 63 (by decide +kernel) rfl
theorem lfX3_9 : Cond.fieldLink RX3 9 "SongThatStays$Songs" "kind" "[I" ∈ gw_W0 := tb_1 56 (by decide +kernel) rfl
theorem lfX4_15 : Cond.fieldLink RX4 15 "SongThatStays$Text" "number" "I" ∈ gw_W0 := tb_1 166 (by decide +kernel) rfl
theorem lfX4_9 : Cond.fieldLink RX4 9 "SongThatStays$Text" "signs" "[I" ∈ gw_W0 := tb_1 165 (by decide +kernel) rfl
theorem lfX5_10 : Cond.fieldLink RX5 10 "SongThatStays" "now" "LSongThatStays$Office;" ∈ gw_W0 := tb_1 173 (by decide +kernel) rfl
theorem lfX5_16 : Cond.fieldLink RX5 16 "SongThatStays" "mind" "LSongThatStays$Office;" ∈ gw_W0 := tb_1 174 (by decide +kernel) rfl
theorem lfX5_19 : Cond.fieldLink RX5 19 "SongThatStays" "kept" "LSongThatStays$Office;" ∈ gw_W0 := tb_1 175 (by decide +kernel) rfl
theorem lfX5_22 : Cond.fieldLink RX5 22 "SongThatStays" "isKept" "Z" ∈ gw_W0 := tb_1 176 (by decide +kernel) rfl
theorem lfX5_29 : Cond.fieldLink RX5 29 "SongThatStays" "text" "LSongThatStays$Text;" ∈ gw_W0 := tb_1 177 (by decide +kernel) rfl
theorem lfX5_33 : Cond.fieldLink RX5 33 "SongThatStays" "told" "[I" ∈ gw_W0 := tb_1 178 (by decide +kernel) rfl
theorem lfX5_37 : Cond.fieldLink RX5 37 "SongThatStays" "toldNumber" "I" ∈ gw_W0 := tb_1 179 (by decide +kernel) rfl
theorem lfX5_41 : Cond.fieldLink RX5 41 "SongThatStays" "refusals" "[I" ∈ gw_W0 := tb_1 180 (by decide +kernel) rfl
theorem lfX6_116 : Cond.fieldLink RX6 116 "SongThatStaysModel" "taped" "I" ∈ gw_W0 := tb_3 238 (by decide +kernel) rfl
theorem lfX6_123 : Cond.fieldLink RX6 123 "SongThatStaysModel" "place" "I" ∈ gw_W0 := tb_3 239 (by decide +kernel) rfl
theorem lfX6_13 : Cond.fieldLink RX6 13 "SongThatStaysModel" "s" "[I" ∈ gw_W0 := tb_3 226 (by decide +kernel) rfl
theorem lfX6_16 : Cond.fieldLink RX6 16 "SongThatStaysModel" "image" "[I" ∈ gw_W0 := tb_3 227 (by decide +kernel) rfl
theorem lfX6_180 : Cond.fieldLink RX6 180 "SongThatStaysModel" "rowed" "I" ∈ gw_W0 := tb_4 1 (by decide +kernel) rfl
theorem lfX6_19 : Cond.fieldLink RX6 19 "SongThatStaysModel" "read" "[I" ∈ gw_W0 := tb_3 228 (by decide +kernel) rfl
theorem lfX6_192 : Cond.fieldLink RX6 192 "SongThatStaysModel" "isImage" "Z" ∈ gw_W0 := tb_3 230 (by decide +kernel) rfl
theorem lfX6_22 : Cond.fieldLink RX6 22 "SongThatStaysModel" "mind" "[I" ∈ gw_W0 := tb_3 229 (by decide +kernel) rfl
theorem lfX6_25 : Cond.fieldLink RX6 25 "SongThatStaysModel" "heard" "[I" ∈ gw_W0 := tb_3 231 (by decide +kernel) rfl
theorem lfX6_28 : Cond.fieldLink RX6 28 "SongThatStaysModel" "by" "[I" ∈ gw_W0 := tb_3 232 (by decide +kernel) rfl
theorem lfX6_31 : Cond.fieldLink RX6 31 "SongThatStaysModel" "from" "[I" ∈ gw_W0 := tb_3 233 (by decide +kernel) rfl
theorem lfX6_34 : Cond.fieldLink RX6 34 "SongThatStaysModel" "origin" "[I" ∈ gw_W0 := tb_3 234 (by decide +kernel) rfl
theorem lfX6_37 : Cond.fieldLink RX6 37 "SongThatStaysModel" "kept" "[I" ∈ gw_W0 := tb_3 235 (by decide +kernel) rfl
theorem lfX6_40 : Cond.fieldLink RX6 40 "SongThatStaysModel" "tape" "[I" ∈ gw_W0 := tb_3 236 (by decide +kernel) rfl
theorem lfX6_43 : Cond.fieldLink RX6 43 "SongThatStaysModel" "told" "[I" ∈ gw_W0 := tb_3 237 (by decide +kernel) rfl
theorem lfX6_46 : Cond.fieldLink RX6 46 "SongThatStaysModel" "row" "[I" ∈ gw_W0 := tb_4 0 (by decide +kernel) rfl
theorem lfX6_7 : Cond.fieldLink RX6 7 "SongThatStaysModel" "refusals" "[I" ∈ gw_W0 := tb_3 225 (by decide +kernel) rfl
theorem lfJ0_1053 : Cond.fieldLink RJ0 1053 "jdk/internal/util/Preconditions" "SIOOBE_FORMATTER" "Ljava/util/function/BiFunction;" ∈ gw_W0 := tb_2 62 (by decide +kernel) rfl
theorem lfJ0_15 : Cond.fieldLink RJ0 15 "java/lang/String" "coder" "B" ∈ gw_W0 := tb_5 78 (by decide +kernel) rfl
theorem lfJ0_38 : Cond.fieldLink RJ0 38 "java/lang/String" "COMPACT_STRINGS" "Z" ∈ gw_W0 := tb_2 19 (by decide +kernel) rfl
theorem lfJ0_9 : Cond.fieldLink RJ0 9 "java/lang/String" "value" "[B" ∈ gw_W0 := tb_5 79 (by decide +kernel) rfl
theorem lfX2_109 : Cond.fieldLinkNest RX2 109 "SongThatStays$Heads" "held" "[I" "SongThatStays" ∈ gw_nest := tn_1 89 (by decide +kernel) rfl
theorem lfX2_129 : Cond.fieldLinkNest RX2 129 "SongThatStays$Songs" "pull" "[I" "SongThatStays" ∈ gw_nest := tn_1 60 (by decide +kernel) rfl
theorem lfX2_135 : Cond.fieldLinkNest RX2 135 "SongThatStays$Heads" "strength" "[I" "SongThatStays" ∈ gw_nest := tn_1 92 (by decide +kernel) rfl
theorem lfX2_138 : Cond.fieldLinkNest RX2 138 "SongThatStays$Heads" "origin" "[I" "SongThatStays" ∈ gw_nest := tn_1 99 (by decide +kernel) rfl
theorem lfX2_141 : Cond.fieldLinkNest RX2 141 "SongThatStays$Heads" "gum" "[I" "SongThatStays" ∈ gw_nest := tn_1 95 (by decide +kernel) rfl
theorem lfX2_65 : Cond.fieldLinkNest RX2 65 "SongThatStays$Heads" "place" "[I" "SongThatStays" ∈ gw_nest := tn_1 83 (by decide +kernel) rfl
theorem lfX2_76 : Cond.fieldLinkNest RX2 76 "SongThatStays$Heads" "number" "I" "SongThatStays" ∈ gw_nest := tn_1 102 (by decide +kernel) rfl
theorem lfX5_106 : Cond.fieldLinkNest RX5 106 "SongThatStays$Heads" "kind" "[I" "SongThatStays" ∈ gw_nest := tn_1 81 (by decide +kernel) rfl
theorem lfX5_107 : Cond.fieldLinkNest RX5 107 "SongThatStays$Heads" "place" "[I" "SongThatStays" ∈ gw_nest := tn_1 84 (by decide +kernel) rfl
theorem lfX5_110 : Cond.fieldLinkNest RX5 110 "SongThatStays$Heads" "resist" "[I" "SongThatStays" ∈ gw_nest := tn_1 86 (by decide +kernel) rfl
theorem lfX5_113 : Cond.fieldLinkNest RX5 113 "SongThatStays$Heads" "held" "[I" "SongThatStays" ∈ gw_nest := tn_1 88 (by decide +kernel) rfl
theorem lfX5_116 : Cond.fieldLinkNest RX5 116 "SongThatStays$Heads" "strength" "[I" "SongThatStays" ∈ gw_nest := tn_1 91 (by decide +kernel) rfl
theorem lfX5_119 : Cond.fieldLinkNest RX5 119 "SongThatStays$Heads" "gum" "[I" "SongThatStays" ∈ gw_nest := tn_1 94 (by decide +kernel) rfl
theorem lfX5_125 : Cond.fieldLinkNest RX5 125 "SongThatStays$Office" "loud" "I" "SongThatStays" ∈ gw_nest := tn_1 132 (by decide +kernel) rfl
theorem lfX5_128 : Cond.fieldLinkNest RX5 128 "SongThatStays$Office" "hour" "I" "SongThatStays" ∈ gw_nest := tn_1 130 (by decide +kernel) rfl
theorem lfX5_138 : Cond.fieldLinkNest RX5 138 "SongThatStays$Office" "doors" "LSongThatStays$Doors;" "SongThatStays" ∈ gw_nest := tn_1 124 (by decide +kernel) rfl
theorem lfX5_185 : Cond.fieldLinkNest RX5 185 "SongThatStays$Songs" "number" "I" "SongThatStays" ∈ gw_nest := tn_1 64 (by decide +kernel) rfl
theorem lfX5_186 : Cond.fieldLinkNest RX5 186 "SongThatStays$Heads" "giver" "[I" "SongThatStays" ∈ gw_nest := tn_1 97 (by decide +kernel) rfl
theorem lfX5_189 : Cond.fieldLinkNest RX5 189 "SongThatStays$Heads" "origin" "[I" "SongThatStays" ∈ gw_nest := tn_1 100 (by decide +kernel) rfl
theorem lfX5_195 : Cond.fieldLinkNest RX5 195 "SongThatStays$Doors" "number" "I" "SongThatStays" ∈ gw_nest := tn_1 39 (by decide +kernel) rfl
theorem lfX5_202 : Cond.fieldLinkNest RX5 202 "SongThatStays$Heads" "number" "I" "SongThatStays" ∈ gw_nest := tn_1 103 (by decide +kernel) rfl
theorem lfX5_60 : Cond.fieldLinkNest RX5 60 "SongThatStays$Text" "number" "I" "SongThatStays" ∈ gw_nest := tn_1 167 (by decide +kernel) rfl
theorem lfX5_70 : Cond.fieldLinkNest RX5 70 "SongThatStays$Office" "songs" "LSongThatStays$Songs;" "SongThatStays" ∈ gw_nest := tn_1 126 (by decide +kernel) rfl
theorem lfX5_80 : Cond.fieldLinkNest RX5 80 "SongThatStays$Songs" "kind" "[I" "SongThatStays" ∈ gw_nest := tn_1 57 (by decide +kernel) rfl
theorem lfX5_87 : Cond.fieldLinkNest RX5 87 "SongThatStays$Songs" "pull" "[I" "SongThatStays" ∈ gw_nest := tn_1 59 (by decide +kernel) rfl
theorem lfX5_90 : Cond.fieldLinkNest RX5 90 "SongThatStays$Songs" "length" "[I" "SongThatStays" ∈ gw_nest := tn_1 62 (by decide +kernel) rfl
theorem lfX5_96 : Cond.fieldLinkNest RX5 96 "SongThatStays$Office" "heads" "LSongThatStays$Heads;" "SongThatStays" ∈ gw_nest := tn_1 128 (by decide +kernel) rfl
theorem lmX0_3 : Cond.methodLink RX0 3 (⟨"java/lang/Object", "<init>", "()V"⟩ : MethodName) ∈ gw_W0 := tb_1 34 (by decide +kernel) rfl
theorem lmX0_33 : Cond.methodLink RX0 33 yX0_has ∈ gw_W0 := tb_3 17 (by decide +kernel) rfl
theorem lmX0_40 : Cond.methodLink RX0 40 yX0_isOpen ∈ gw_W0 := tb_3 13 (by decide +kernel) rfl
theorem lmX1_3 : Cond.methodLink RX1 3 (⟨"java/lang/Object", "<init>", "()V"⟩ : MethodName) ∈ gw_W0 := tb_1 79 (by decide +kernel) rfl
theorem lmX1_48 : Cond.methodLink RX1 48 yX1_lose ∈ gw_W0 := tb_2 165 (by decide +kernel) rfl
theorem lmX1_56 : Cond.methodLink RX1 56 yX1_hasSong ∈ gw_W0 := tb_2 130 (by decide +kernel) rfl
theorem lmX1_59 : Cond.methodLink RX1 59 yJ9_min_7cf53 ∈ gw_W0 := tb_3 40 (by decide +kernel) rfl
theorem lmX1_65 : Cond.methodLink RX1 65 yJ9_max_7cf53 ∈ gw_W0 := tb_3 79 (by decide +kernel) rfl
theorem lmX1_68 : Cond.methodLink RX1 68 yX1_weaken ∈ gw_W0 := tb_3 36 (by decide +kernel) rfl
theorem lmX2_105 : Cond.methodLink RX2 105 yX1_hums ∈ gw_W0 := tb_3 55 (by decide +kernel) rfl
theorem lmX2_112 : Cond.methodLink RX2 112 yX2_listen ∈ gw_W0 := tb_3 56 (by decide +kernel) rfl
theorem lmX2_115 : Cond.methodLink RX2 115 yX2_weakening ∈ gw_W0 := tb_3 66 (by decide +kernel) rfl
theorem lmX2_118 : Cond.methodLink RX2 118 yX1_weaken ∈ gw_W0 := tb_3 74 (by decide +kernel) rfl
theorem lmX2_122 : Cond.methodLink RX2 122 yX1_chew ∈ gw_W0 := tb_3 75 (by decide +kernel) rfl
theorem lmX2_125 : Cond.methodLink RX2 125 yX3_isStronger ∈ gw_W0 := tb_3 60 (by decide +kernel) rfl
theorem lmX2_132 : Cond.methodLink RX2 132 yX1_bar ∈ gw_W0 := tb_3 65 (by decide +kernel) rfl
theorem lmX2_144 : Cond.methodLink RX2 144 yX3_fading ∈ gw_W0 := tb_3 70 (by decide +kernel) rfl
theorem lmX2_3 : Cond.methodLink RX2 3 (⟨"java/lang/Object", "<init>", "()V"⟩ : MethodName) ∈ gw_W0 := tb_1 28 (by decide +kernel) rfl
theorem lmX2_55 : Cond.methodLink RX2 55 yX0_takeAs ∈ gw_W0 := tb_2 109 (by decide +kernel) rfl
theorem lmX2_59 : Cond.methodLink RX2 59 yX3_takeAs ∈ gw_W0 := tb_2 120 (by decide +kernel) rfl
theorem lmX2_62 : Cond.methodLink RX2 62 yX1_takeAs ∈ gw_W0 := tb_2 125 (by decide +kernel) rfl
theorem lmX2_72 : Cond.methodLink RX2 72 yX0_roomsHeardIn ∈ gw_W0 := tb_2 236 (by decide +kernel) rfl
theorem lmX2_79 : Cond.methodLink RX2 79 yX3_has ∈ gw_W0 := tb_2 185 (by decide +kernel) rfl
theorem lmX2_83 : Cond.methodLink RX2 83 yX3_fresh ∈ gw_W0 := tb_2 186 (by decide +kernel) rfl
theorem lmX2_86 : Cond.methodLink RX2 86 yX1_receive ∈ gw_W0 := tb_2 191 (by decide +kernel) rfl
theorem lmX2_90 : Cond.methodLink RX2 90 yX1_lose ∈ gw_W0 := tb_2 195 (by decide +kernel) rfl
theorem lmX2_94 : Cond.methodLink RX2 94 yX2_passHour ∈ gw_W0 := tb_3 99 (by decide +kernel) rfl
theorem lmX2_98 : Cond.methodLink RX2 98 yX2_nearBits ∈ gw_W0 := tb_3 53 (by decide +kernel) rfl
theorem lmX3_25 : Cond.methodLink RX3 25 yX3_isFull ∈ gw_W0 := tb_2 155 (by decide +kernel) rfl
theorem lmX3_3 : Cond.methodLink RX3 3 (⟨"java/lang/Object", "<init>", "()V"⟩ : MethodName) ∈ gw_W0 := tb_1 55 (by decide +kernel) rfl
theorem lmX3_37 : Cond.methodLink RX3 37 yX3_has ∈ gw_W0 := tb_3 64 (by decide +kernel) rfl
theorem lmX4_27 : Cond.methodLink RX4 27 yX4_sign ∈ gw_W0 := tb_1 236 (by decide +kernel) rfl
theorem lmX4_3 : Cond.methodLink RX4 3 (⟨"java/lang/Object", "<init>", "()V"⟩ : MethodName) ∈ gw_W0 := tb_1 164 (by decide +kernel) rfl
theorem lmX4_31 : Cond.methodLink RX4 31 yX4_digit ∈ gw_W0 := tb_2 97 (by decide +kernel) rfl
theorem lmX4_38 : Cond.methodLink RX4 38 yJ0_indexOf_0f7a4 ∈ gw_W0 := tb_2 7 (by decide +kernel) rfl
theorem lmX4_43 : Cond.methodLink RX4 43 yX4_behindStatement ∈ gw_W0 := tb_1 232 (by decide +kernel) rfl
theorem lmX4_46 : Cond.methodLink RX4 46 yX4_kind ∈ gw_W0 := tb_2 1 (by decide +kernel) rfl
theorem lmX4_49 : Cond.methodLink RX4 49 yX4_isDigit ∈ gw_W0 := tb_2 93 (by decide +kernel) rfl
theorem lmX5_1 : Cond.methodLink RX5 1 (⟨"java/lang/Object", "<init>", "()V"⟩ : MethodName) ∈ gw_W0 := tb_1 20 (by decide +kernel) rfl
theorem lmX5_100 : Cond.methodLink RX5 100 yX1_holders ∈ gw_W0 := tb_2 211 (by decide +kernel) rfl
theorem lmX5_105 : Cond.methodLink RX5 105 yX1_has ∈ gw_W0 := tb_2 173 (by decide +kernel) rfl
theorem lmX5_122 : Cond.methodLink RX5 122 yX1_bar ∈ gw_W0 := tb_2 219 (by decide +kernel) rfl
theorem lmX5_131 : Cond.methodLink RX5 131 yX1_hums ∈ gw_W0 := tb_2 223 (by decide +kernel) rfl
theorem lmX5_135 : Cond.methodLink RX5 135 yX2_nearBits ∈ gw_W0 := tb_2 231 (by decide +kernel) rfl
theorem lmX5_142 : Cond.methodLink RX5 142 yX0_has ∈ gw_W0 := tb_3 5 (by decide +kernel) rfl
theorem lmX5_145 : Cond.methodLink RX5 145 yX0_turn ∈ gw_W0 := tb_3 9 (by decide +kernel) rfl
theorem lmX5_148 : Cond.methodLink RX5 148 yX5_isRoom ∈ gw_W0 := tb_3 22 (by decide +kernel) rfl
theorem lmX5_151 : Cond.methodLink RX5 151 yX5_put ∈ gw_W0 := tb_1 212 (by decide +kernel) rfl
theorem lmX5_155 : Cond.methodLink RX5 155 yX2_give ∈ gw_W0 := tb_2 181 (by decide +kernel) rfl
theorem lmX5_159 : Cond.methodLink RX5 159 yX1_hasSong ∈ gw_W0 := tb_3 31 (by decide +kernel) rfl
theorem lmX5_162 : Cond.methodLink RX5 162 yX1_treat ∈ gw_W0 := tb_3 32 (by decide +kernel) rfl
theorem lmX5_165 : Cond.methodLink RX5 165 yX2_passHour ∈ gw_W0 := tb_3 49 (by decide +kernel) rfl
theorem lmX5_168 : Cond.methodLink RX5 168 yX5_headAndHours ∈ gw_W0 := tb_3 84 (by decide +kernel) rfl
theorem lmX5_172 : Cond.methodLink RX5 172 yX5_isNeither ∈ gw_W0 := tb_3 88 (by decide +kernel) rfl
theorem lmX5_175 : Cond.methodLink RX5 175 yX5_imagine ∈ gw_W0 := tb_3 91 (by decide +kernel) rfl
theorem lmX5_178 : Cond.methodLink RX5 178 yX5_songAndHours ∈ gw_W0 := tb_3 104 (by decide +kernel) rfl
theorem lmX5_181 : Cond.methodLink RX5 181 yX2_takeAs ∈ gw_W0 := tb_2 105 (by decide +kernel) rfl
theorem lmX5_192 : Cond.methodLink RX5 192 yX5_hoursUntilRid ∈ gw_W0 := tb_3 136 (by decide +kernel) rfl
theorem lmX5_196 : Cond.methodLink RX5 196 yX0_isOpen ∈ gw_W0 := tb_3 148 (by decide +kernel) rfl
theorem lmX5_199 : Cond.methodLink RX5 199 yX2_passHours ∈ gw_W0 := tb_3 95 (by decide +kernel) rfl
theorem lmX5_203 : Cond.methodLink RX5 203 yX1_changePlaces ∈ gw_W0 := tb_3 153 (by decide +kernel) rfl
theorem lmX5_206 : Cond.methodLink RX5 206 yX5_lengthAndHours ∈ gw_W0 := tb_3 161 (by decide +kernel) rfl
theorem lmX5_209 : Cond.methodLink RX5 209 yX3_isFull ∈ gw_W0 := tb_3 164 (by decide +kernel) rfl
theorem lmX5_210 : Cond.methodLink RX5 210 yX5_holdersIfWritten ∈ gw_W0 := tb_3 165 (by decide +kernel) rfl
theorem lmX5_214 : Cond.methodLink RX5 214 yX5_leadsToTold ∈ gw_W0 := tb_3 177 (by decide +kernel) rfl
theorem lmX5_217 : Cond.methodLink RX5 217 yX5_inRow ∈ gw_W0 := tb_3 185 (by decide +kernel) rfl
theorem lmX5_220 : Cond.methodLink RX5 220 yJ9_min_7cf53 ∈ gw_W0 := tb_2 116 (by decide +kernel) rfl
theorem lmX5_225 : Cond.methodLink RX5 225 yX5_unlikeTold ∈ gw_W0 := tb_3 181 (by decide +kernel) rfl
theorem lmX5_234 : Cond.methodLink RX5 234 yX0_openOnes ∈ gw_W0 := tb_3 211 (by decide +kernel) rfl
theorem lmX5_237 : Cond.methodLink RX5 237 yX1_allStrength ∈ gw_W0 := tb_3 215 (by decide +kernel) rfl
theorem lmX5_240 : Cond.methodLink RX5 240 (⟨"java/lang/System", "arraycopy", "(Ljava/lang/Object;ILjava/lang/Object;II)V"⟩ : MethodName) ∈ gw_W0 := tb_2 117 (by decide +kernel) rfl
theorem lmX5_246 : Cond.methodLink RX5 246 yX3_add ∈ gw_W0 := tb_2 151 (by decide +kernel) rfl
theorem lmX5_248 : Cond.methodLink RX5 248 yX5_obey ∈ gw_W0 := tb_2 136 (by decide +kernel) rfl
theorem lmX5_251 : Cond.methodLink RX5 251 yX4_behindStatement ∈ gw_W0 := tb_2 204 (by decide +kernel) rfl
theorem lmX5_254 : Cond.methodLink RX5 254 yX4_sign ∈ gw_W0 := tb_2 140 (by decide +kernel) rfl
theorem lmX5_257 : Cond.methodLink RX5 257 yX4_digit ∈ gw_W0 := tb_2 141 (by decide +kernel) rfl
theorem lmX5_260 : Cond.methodLink RX5 260 yX0_add ∈ gw_W0 := tb_2 142 (by decide +kernel) rfl
theorem lmX5_263 : Cond.methodLink RX5 263 yX4_kind ∈ gw_W0 := tb_2 150 (by decide +kernel) rfl
theorem lmX5_265 : Cond.methodLink RX5 265 yX1_add ∈ gw_W0 := tb_2 160 (by decide +kernel) rfl
theorem lmX5_266 : Cond.methodLink RX5 266 yX5_giveInMind ∈ gw_W0 := tb_2 169 (by decide +kernel) rfl
theorem lmX5_269 : Cond.methodLink RX5 269 yX4_value ∈ gw_W0 := tb_2 196 (by decide +kernel) rfl
theorem lmX5_272 : Cond.methodLink RX5 272 yX5_setLoudInMind ∈ gw_W0 := tb_2 200 (by decide +kernel) rfl
theorem lmX5_44 : Cond.methodLink RX5 44 yX5_outside ∈ gw_W0 := tb_1 202 (by decide +kernel) rfl
theorem lmX5_48 : Cond.methodLink RX5 48 yX5_refuse ∈ gw_W0 := tb_1 205 (by decide +kernel) rfl
theorem lmX5_52 : Cond.methodLink RX5 52 yX4_isFull ∈ gw_W0 := tb_1 215 (by decide +kernel) rfl
theorem lmX5_56 : Cond.methodLink RX5 56 yX4_add ∈ gw_W0 := tb_1 219 (by decide +kernel) rfl
theorem lmX5_63 : Cond.methodLink RX5 63 yX4_faultPlace ∈ gw_W0 := tb_1 228 (by decide +kernel) rfl
theorem lmX5_67 : Cond.methodLink RX5 67 yX5_obeyAll ∈ gw_W0 := tb_2 101 (by decide +kernel) rfl
theorem lmX5_74 : Cond.methodLink RX5 74 yX3_has ∈ gw_W0 := tb_2 177 (by decide +kernel) rfl
theorem lmX5_83 : Cond.methodLink RX5 83 yX5_at ∈ gw_W0 := tb_1 209 (by decide +kernel) rfl
theorem lmX5_93 : Cond.methodLink RX5 93 yX3_fresh ∈ gw_W0 := tb_2 210 (by decide +kernel) rfl
theorem lmL_100 : Cond.methodLink RL 100 yX6_instead ∈ gw_W0 := tb_5 20 (by decide +kernel) rfl
theorem lmL_101 : Cond.methodLink RL 101 yX5_shut ∈ gw_W0 := tb_3 144 (by decide +kernel) rfl
theorem lmL_104 : Cond.methodLink RL 104 yX6_shut ∈ gw_W0 := tb_5 24 (by decide +kernel) rfl
theorem lmL_105 : Cond.methodLink RL 105 yX5_seats ∈ gw_W0 := tb_3 149 (by decide +kernel) rfl
theorem lmL_108 : Cond.methodLink RL 108 yX6_seats ∈ gw_W0 := tb_5 28 (by decide +kernel) rfl
theorem lmL_109 : Cond.methodLink RL 109 yX5_write ∈ gw_W0 := tb_3 157 (by decide +kernel) rfl
theorem lmL_112 : Cond.methodLink RL 112 yX6_write ∈ gw_W0 := tb_5 32 (by decide +kernel) rfl
theorem lmL_113 : Cond.methodLink RL 113 yX5_row ∈ gw_W0 := tb_3 169 (by decide +kernel) rfl
theorem lmL_116 : Cond.methodLink RL 116 yX6_row ∈ gw_W0 := tb_5 36 (by decide +kernel) rfl
theorem lmL_117 : Cond.methodLink RL 117 yX5_otherwise ∈ gw_W0 := tb_3 173 (by decide +kernel) rfl
theorem lmL_12 : Cond.methodLink RL 12 yX6_init ∈ gw_W0 := tb_3 221 (by decide +kernel) rfl
theorem lmL_120 : Cond.methodLink RL 120 yX6_otherwise ∈ gw_W0 := tb_5 40 (by decide +kernel) rfl
theorem lmL_121 : Cond.methodLink RL 121 yX5_judge ∈ gw_W0 := tb_3 188 (by decide +kernel) rfl
theorem lmL_124 : Cond.methodLink RL 124 yX6_judge ∈ gw_W0 := tb_5 52 (by decide +kernel) rfl
theorem lmL_125 : Cond.methodLink RL 125 yX5_seeds ∈ gw_W0 := tb_3 192 (by decide +kernel) rfl
theorem lmL_128 : Cond.methodLink RL 128 yX6_seeds ∈ gw_W0 := tb_5 56 (by decide +kernel) rfl
theorem lmL_129 : Cond.methodLink RL 129 yX5_image ∈ gw_W0 := tb_3 199 (by decide +kernel) rfl
theorem lmL_13 : Cond.methodLink RL 13 yX5_letter ∈ gw_W0 := tb_1 198 (by decide +kernel) rfl
theorem lmL_132 : Cond.methodLink RL 132 yX6_image ∈ gw_W0 := tb_5 63 (by decide +kernel) rfl
theorem lmL_133 : Cond.methodLink RL 133 yX5_on ∈ gw_W0 := tb_3 203 (by decide +kernel) rfl
theorem lmL_136 : Cond.methodLink RL 136 yX6_on ∈ gw_W0 := tb_5 67 (by decide +kernel) rfl
theorem lmL_137 : Cond.methodLink RL 137 yX5_count ∈ gw_W0 := tb_3 207 (by decide +kernel) rfl
theorem lmL_140 : Cond.methodLink RL 140 yX6_count ∈ gw_W0 := tb_5 71 (by decide +kernel) rfl
theorem lmL_17 : Cond.methodLink RL 17 yX6_letter ∈ gw_W0 := tb_4 37 (by decide +kernel) rfl
theorem lmL_18 : Cond.methodLink RL 18 yX5_office ∈ gw_W0 := tb_1 224 (by decide +kernel) rfl
theorem lmL_22 : Cond.methodLink RL 22 yX6_office ∈ gw_W0 := tb_4 48 (by decide +kernel) rfl
theorem lmL_23 : Cond.methodLink RL 23 yX5_song ∈ gw_W0 := tb_2 206 (by decide +kernel) rfl
theorem lmL_27 : Cond.methodLink RL 27 yX6_song ∈ gw_W0 := tb_4 116 (by decide +kernel) rfl
theorem lmL_28 : Cond.methodLink RL 28 yX5_head ∈ gw_W0 := tb_2 215 (by decide +kernel) rfl
theorem lmL_31 : Cond.methodLink RL 31 yX6_head ∈ gw_W0 := tb_4 128 (by decide +kernel) rfl
theorem lmL_32 : Cond.methodLink RL 32 yX5_near ∈ gw_W0 := tb_2 227 (by decide +kernel) rfl
theorem lmL_35 : Cond.methodLink RL 35 yX6_near ∈ gw_W0 := tb_4 140 (by decide +kernel) rfl
theorem lmL_36 : Cond.methodLink RL 36 yX5_door ∈ gw_W0 := tb_3 1 (by decide +kernel) rfl
theorem lmL_39 : Cond.methodLink RL 39 yX6_door ∈ gw_W0 := tb_4 148 (by decide +kernel) rfl
theorem lmL_40 : Cond.methodLink RL 40 yX5_go ∈ gw_W0 := tb_3 18 (by decide +kernel) rfl
theorem lmL_43 : Cond.methodLink RL 43 yX6_go ∈ gw_W0 := tb_4 152 (by decide +kernel) rfl
theorem lmL_44 : Cond.methodLink RL 44 yX5_get ∈ gw_W0 := tb_3 23 (by decide +kernel) rfl
theorem lmL_47 : Cond.methodLink RL 47 yX6_get ∈ gw_W0 := tb_4 156 (by decide +kernel) rfl
theorem lmL_48 : Cond.methodLink RL 48 yX5_remedy ∈ gw_W0 := tb_3 27 (by decide +kernel) rfl
theorem lmL_51 : Cond.methodLink RL 51 yX6_remedy ∈ gw_W0 := tb_4 160 (by decide +kernel) rfl
theorem lmL_52 : Cond.methodLink RL 52 yX5_loud ∈ gw_W0 := tb_3 41 (by decide +kernel) rfl
theorem lmL_55 : Cond.methodLink RL 55 yX6_loud ∈ gw_W0 := tb_4 168 (by decide +kernel) rfl
theorem lmL_56 : Cond.methodLink RL 56 yX5_hour ∈ gw_W0 := tb_3 45 (by decide +kernel) rfl
theorem lmL_59 : Cond.methodLink RL 59 yX6_hour ∈ gw_W0 := tb_4 172 (by decide +kernel) rfl
theorem lmL_60 : Cond.methodLink RL 60 yX5_hold ∈ gw_W0 := tb_3 80 (by decide +kernel) rfl
theorem lmL_64 : Cond.methodLink RL 64 yX6_hold ∈ gw_W0 := tb_4 192 (by decide +kernel) rfl
theorem lmL_65 : Cond.methodLink RL 65 yX5_have ∈ gw_W0 := tb_3 100 (by decide +kernel) rfl
theorem lmL_68 : Cond.methodLink RL 68 yX6_have ∈ gw_W0 := tb_4 212 (by decide +kernel) rfl
theorem lmL_69 : Cond.methodLink RL 69 yX5_takes ∈ gw_W0 := tb_3 108 (by decide +kernel) rfl
theorem lmL_72 : Cond.methodLink RL 72 yX6_takes_ ∈ gw_W0 := tb_4 220 (by decide +kernel) rfl
theorem lmL_73 : Cond.methodLink RL 73 yX5_still ∈ gw_W0 := tb_3 112 (by decide +kernel) rfl
theorem lmL_76 : Cond.methodLink RL 76 yX6_still ∈ gw_W0 := tb_4 224 (by decide +kernel) rfl
theorem lmL_77 : Cond.methodLink RL 77 yX5_most ∈ gw_W0 := tb_3 116 (by decide +kernel) rfl
theorem lmL_80 : Cond.methodLink RL 80 yX6_most ∈ gw_W0 := tb_4 228 (by decide +kernel) rfl
theorem lmL_81 : Cond.methodLink RL 81 yX5_lasts ∈ gw_W0 := tb_3 120 (by decide +kernel) rfl
theorem lmL_84 : Cond.methodLink RL 84 yX6_lasts ∈ gw_W0 := tb_4 232 (by decide +kernel) rfl
theorem lmL_85 : Cond.methodLink RL 85 yX5_from ∈ gw_W0 := tb_3 124 (by decide +kernel) rfl
theorem lmL_88 : Cond.methodLink RL 88 yX6_from ∈ gw_W0 := tb_4 236 (by decide +kernel) rfl
theorem lmL_89 : Cond.methodLink RL 89 yX5_first ∈ gw_W0 := tb_3 128 (by decide +kernel) rfl
theorem lmL_9 : Cond.methodLink RL 9 yX5_init ∈ gw_W0 := tb_1 17 (by decide +kernel) rfl
theorem lmL_92 : Cond.methodLink RL 92 yX6_first ∈ gw_W0 := tb_5 8 (by decide +kernel) rfl
theorem lmL_93 : Cond.methodLink RL 93 yX5_rid ∈ gw_W0 := tb_3 132 (by decide +kernel) rfl
theorem lmL_96 : Cond.methodLink RL 96 yX6_rid ∈ gw_W0 := tb_5 12 (by decide +kernel) rfl
theorem lmL_97 : Cond.methodLink RL 97 yX5_instead ∈ gw_W0 := tb_3 140 (by decide +kernel) rfl
theorem lmX6_1 : Cond.methodLink RX6 1 (⟨"java/lang/Object", "<init>", "()V"⟩ : MethodName) ∈ gw_W0 := tb_3 224 (by decide +kernel) rfl
theorem lmX6_103 : Cond.methodLink RX6 103 yX6_goesFor ∈ gw_W0 := tb_4 204 (by decide +kernel) rfl
theorem lmX6_106 : Cond.methodLink RX6 106 yX6_haveIt ∈ gw_W0 := tb_4 120 (by decide +kernel) rfl
theorem lmX6_109 : Cond.methodLink RX6 109 yX6_ends ∈ gw_W0 := tb_4 208 (by decide +kernel) rfl
theorem lmX6_112 : Cond.methodLink RX6 112 yX6_within ∈ gw_W0 := tb_4 41 (by decide +kernel) rfl
theorem lmX6_120 : Cond.methodLink RX6 120 yX6_refuse ∈ gw_W0 := tb_4 44 (by decide +kernel) rfl
theorem lmX6_126 : Cond.methodLink RX6 126 yX6_sign ∈ gw_W0 := tb_4 60 (by decide +kernel) rfl
theorem lmX6_129 : Cond.methodLink RX6 129 yX6_readsNumber ∈ gw_W0 := tb_4 64 (by decide +kernel) rfl
theorem lmX6_132 : Cond.methodLink RX6 132 yX6_songOf ∈ gw_W0 := tb_4 71 (by decide +kernel) rfl
theorem lmX6_135 : Cond.methodLink RX6 135 yX6_readsKind ∈ gw_W0 := tb_4 74 (by decide +kernel) rfl
theorem lmX6_138 : Cond.methodLink RX6 138 yX6_headOf ∈ gw_W0 := tb_4 78 (by decide +kernel) rfl
theorem lmX6_141 : Cond.methodLink RX6 141 yX6_takes ∈ gw_W0 := tb_4 81 (by decide +kernel) rfl
theorem lmX6_144 : Cond.methodLink RX6 144 yX6_isHead ∈ gw_W0 := tb_4 96 (by decide +kernel) rfl
theorem lmX6_147 : Cond.methodLink RX6 147 yX6_isSong ∈ gw_W0 := tb_4 100 (by decide +kernel) rfl
theorem lmX6_150 : Cond.methodLink RX6 150 yX6_readsStatement ∈ gw_W0 := tb_4 56 (by decide +kernel) rfl
theorem lmX6_154 : Cond.methodLink RX6 154 yX6_comes ∈ gw_W0 := tb_4 88 (by decide +kernel) rfl
theorem lmX6_157 : Cond.methodLink RX6 157 yX6_reads ∈ gw_W0 := tb_4 52 (by decide +kernel) rfl
theorem lmX6_160 : Cond.methodLink RX6 160 yX6_mends ∈ gw_W0 := tb_4 164 (by decide +kernel) rfl
theorem lmX6_163 : Cond.methodLink RX6 163 yX6_wrong ∈ gw_W0 := tb_4 196 (by decide +kernel) rfl
theorem lmX6_167 : Cond.methodLink RX6 167 yX6_haveBehind ∈ gw_W0 := tb_4 216 (by decide +kernel) rfl
theorem lmX6_170 : Cond.methodLink RX6 170 yX6_starts ∈ gw_W0 := tb_5 4 (by decide +kernel) rfl
theorem lmX6_173 : Cond.methodLink RX6 173 yX6_wentBy ∈ gw_W0 := tb_5 0 (by decide +kernel) rfl
theorem lmX6_177 : Cond.methodLink RX6 177 yX6_ridOf ∈ gw_W0 := tb_5 16 (by decide +kernel) rfl
theorem lmX6_183 : Cond.methodLink RX6 183 yX6_isTold ∈ gw_W0 := tb_5 48 (by decide +kernel) rfl
theorem lmX6_186 : Cond.methodLink RX6 186 yX6_isAllTold ∈ gw_W0 := tb_5 44 (by decide +kernel) rfl
theorem lmX6_196 : Cond.methodLink RX6 196 yX6_bits ∈ gw_W0 := tb_5 75 (by decide +kernel) rfl
theorem lmX6_49 : Cond.methodLink RX6 49 yX6_lays ∈ gw_W0 := tb_4 85 (by decide +kernel) rfl
theorem lmX6_53 : Cond.methodLink RX6 53 yX6_isIn ∈ gw_W0 := tb_4 68 (by decide +kernel) rfl
theorem lmX6_57 : Cond.methodLink RX6 57 yX6_of ∈ gw_W0 := tb_4 112 (by decide +kernel) rfl
theorem lmX6_61 : Cond.methodLink RX6 61 yX6_at ∈ gw_W0 := tb_4 124 (by decide +kernel) rfl
theorem lmX6_64 : Cond.methodLink RX6 64 yX6_puts ∈ gw_W0 := tb_4 92 (by decide +kernel) rfl
theorem lmX6_68 : Cond.methodLink RX6 68 yX6_fresh ∈ gw_W0 := tb_4 108 (by decide +kernel) rfl
theorem lmX6_72 : Cond.methodLink RX6 72 yX6_areNear ∈ gw_W0 := tb_4 144 (by decide +kernel) rfl
theorem lmX6_75 : Cond.methodLink RX6 75 yX6_bar ∈ gw_W0 := tb_4 132 (by decide +kernel) rfl
theorem lmX6_78 : Cond.methodLink RX6 78 yX6_fades ∈ gw_W0 := tb_4 188 (by decide +kernel) rfl
theorem lmX6_81 : Cond.methodLink RX6 81 yX6_gets ∈ gw_W0 := tb_4 104 (by decide +kernel) rfl
theorem lmX6_85 : Cond.methodLink RX6 85 yX6_hums ∈ gw_W0 := tb_4 136 (by decide +kernel) rfl
theorem lmX6_89 : Cond.methodLink RX6 89 yX6_hears ∈ gw_W0 := tb_4 180 (by decide +kernel) rfl
theorem lmX6_92 : Cond.methodLink RX6 92 yX6_wanes ∈ gw_W0 := tb_4 184 (by decide +kernel) rfl
theorem lmX6_96 : Cond.methodLink RX6 96 yX6_begins ∈ gw_W0 := tb_4 200 (by decide +kernel) rfl
theorem lmX6_99 : Cond.methodLink RX6 99 yX6_goes ∈ gw_W0 := tb_4 176 (by decide +kernel) rfl
theorem lmJ0_1062 : Cond.methodLink RJ0 1062 (⟨"jdk/internal/util/Preconditions", "checkFromToIndex", "(IIILjava/util/function/BiFunction;)I"⟩ : MethodName) ∈ gw_W0 := tb_2 64 (by decide +kernel) rfl
theorem lmJ0_335 : Cond.methodLink RJ0 335 yJ0_coder_7d493 ∈ gw_W0 := tb_2 25 (by decide +kernel) rfl
theorem lmJ0_492 : Cond.methodLink RJ0 492 yJ0_isLatin1_aae02 ∈ gw_W0 := tb_2 15 (by decide +kernel) rfl
theorem lmJ0_505 : Cond.methodLink RJ0 505 yJ0_length_8abf5 ∈ gw_W0 := tb_2 21 (by decide +kernel) rfl
theorem lmJ0_633 : Cond.methodLink RJ0 633 yJ0_indexOf_7cf53 ∈ gw_W0 := tb_2 11 (by decide +kernel) rfl
theorem lmJ0_637 : Cond.methodLink RJ0 637 yJ1_indexOf_4cfef ∈ gw_W0 := tb_2 29 (by decide +kernel) rfl
theorem lmJ0_640 : Cond.methodLink RJ0 640 (⟨"java/lang/StringUTF16", "indexOf", "([BIII)I"⟩ : MethodName) ∈ gw_W0 := tb_2 44 (by decide +kernel) rfl
theorem lmJ1_38 : Cond.methodLink RJ1 38 yJ9_min_7cf53 ∈ gw_W0 := tb_2 38 (by decide +kernel) rfl
theorem lmJ1_88 : Cond.methodLink RJ1 88 yJ1_canEncode_9a6ad ∈ gw_W0 := tb_2 32 (by decide +kernel) rfl
theorem lmJ1_92 : Cond.methodLink RJ1 92 yJ9_max_7cf53 ∈ gw_W0 := tb_2 35 (by decide +kernel) rfl
theorem lmJ1_95 : Cond.methodLink RJ1 95 yJ1_indexOfChar_4cfef ∈ gw_W0 := tb_2 41 (by decide +kernel) rfl
theorem lmX0_25 : Cond.methodLinkNest RX0 25 yX5_isRoom "SongThatStays" ∈ gw_nest := tn_2 146 (by decide +kernel) rfl
theorem lmX0_29 : Cond.methodLinkNest RX0 29 yX5_put "SongThatStays" ∈ gw_nest := tn_2 149 (by decide +kernel) rfl
theorem lmX0_36 : Cond.methodLinkNest RX0 36 yX5_at "SongThatStays" ∈ gw_nest := tn_3 0 (by decide +kernel) rfl
theorem lmX0_43 : Cond.methodLinkNest RX0 43 yX5_copy "SongThatStays" ∈ gw_nest := tn_2 113 (by decide +kernel) rfl
theorem lmX1_40 : Cond.methodLinkNest RX1 40 yX5_isRoom "SongThatStays" ∈ gw_nest := tn_2 164 (by decide +kernel) rfl
theorem lmX1_44 : Cond.methodLinkNest RX1 44 yX5_put "SongThatStays" ∈ gw_nest := tn_2 135 (by decide +kernel) rfl
theorem lmX1_52 : Cond.methodLinkNest RX1 52 yX5_at "SongThatStays" ∈ gw_nest := tn_2 134 (by decide +kernel) rfl
theorem lmX1_72 : Cond.methodLinkNest RX1 72 yX5_copy "SongThatStays" ∈ gw_nest := tn_2 129 (by decide +kernel) rfl
theorem lmX2_101 : Cond.methodLinkNest RX2 101 yX5_put "SongThatStays" ∈ gw_nest := tn_3 54 (by decide +kernel) rfl
theorem lmX2_11 : Cond.methodLinkNest RX2 11 yX0_init "SongThatStays" ∈ gw_nest := tn_1 31 (by decide +kernel) rfl
theorem lmX2_20 : Cond.methodLinkNest RX2 20 yX3_init "SongThatStays" ∈ gw_nest := tn_1 52 (by decide +kernel) rfl
theorem lmX2_27 : Cond.methodLinkNest RX2 27 yX1_init "SongThatStays" ∈ gw_nest := tn_1 76 (by decide +kernel) rfl
theorem lmX2_68 : Cond.methodLinkNest RX2 68 yX5_at "SongThatStays" ∈ gw_nest := tn_2 235 (by decide +kernel) rfl
theorem lmX3_29 : Cond.methodLinkNest RX3 29 yX5_put "SongThatStays" ∈ gw_nest := tn_2 159 (by decide +kernel) rfl
theorem lmX3_33 : Cond.methodLinkNest RX3 33 yX5_at "SongThatStays" ∈ gw_nest := tn_2 190 (by decide +kernel) rfl
theorem lmX3_41 : Cond.methodLinkNest RX3 41 yX5_copy "SongThatStays" ∈ gw_nest := tn_2 124 (by decide +kernel) rfl
theorem lmX4_19 : Cond.methodLinkNest RX4 19 yX5_put "SongThatStays" ∈ gw_nest := tn_1 223 (by decide +kernel) rfl
theorem lmX4_23 : Cond.methodLinkNest RX4 23 yX5_at "SongThatStays" ∈ gw_nest := tn_2 0 (by decide +kernel) rfl
theorem lmX5_28 : Cond.methodLinkNest RX5 28 yX4_init "SongThatStays" ∈ gw_nest := tn_1 161 (by decide +kernel) rfl
theorem lmX5_9 : Cond.methodLinkNest RX5 9 yX2_init "SongThatStays" ∈ gw_nest := tn_1 25 (by decide +kernel) rfl
theorem inUX0 : ∀ w ∈ u_ws RX0 TX0 4, w ∈ gw_W0 := by
  show ∀ w ∈ (List.range 4).map (u_lay RX0 TX0), w ∈ gw_W0
  intro w hw
  obtain ⟨i, hi, rfl⟩ := List.mem_map.mp hw
  have hi := List.mem_range.mp hi
  match i, hi with
  | 0, _ => exact tb_1 40 (by decide +kernel) rfl
  | 1, _ => exact tb_1 42 (by decide +kernel) rfl
  | 2, _ => exact tb_1 44 (by decide +kernel) rfl
  | 3, _ => exact tb_1 46 (by decide +kernel) rfl
  | j + 4, hj => omega
theorem instX0 : Cond.instantiable RX0 4 ∈ gw_W0 := tb_1 30 (by decide +kernel) rfl
theorem inUX1 : ∀ w ∈ u_ws RX1 TX1 9, w ∈ gw_W0 := by
  show ∀ w ∈ (List.range 9).map (u_lay RX1 TX1), w ∈ gw_W0
  intro w hw
  obtain ⟨i, hi, rfl⟩ := List.mem_map.mp hw
  have hi := List.mem_range.mp hi
  match i, hi with
  | 0, _ => exact tb_1 104 (by decide +kernel) rfl
  | 1, _ => exact tb_1 106 (by decide +kernel) rfl
  | 2, _ => exact tb_1 108 (by decide +kernel) rfl
  | 3, _ => exact tb_1 110 (by decide +kernel) rfl
  | 4, _ => exact tb_1 112 (by decide +kernel) rfl
  | 5, _ => exact tb_1 114 (by decide +kernel) rfl
  | 6, _ => exact tb_1 116 (by decide +kernel) rfl
  | 7, _ => exact tb_1 118 (by decide +kernel) rfl
  | 8, _ => exact tb_1 120 (by decide +kernel) rfl
  | j + 9, hj => omega
theorem instX1 : Cond.instantiable RX1 9 ∈ gw_W0 := tb_1 75 (by decide +kernel) rfl
theorem inUX2 : ∀ w ∈ u_ws RX2 TX2 10, w ∈ gw_W0 := by
  show ∀ w ∈ (List.range 10).map (u_lay RX2 TX2), w ∈ gw_W0
  intro w hw
  obtain ⟨i, hi, rfl⟩ := List.mem_map.mp hw
  have hi := List.mem_range.mp hi
  match i, hi with
  | 0, _ => exact tb_1 138 (by decide +kernel) rfl
  | 1, _ => exact tb_1 140 (by decide +kernel) rfl
  | 2, _ => exact tb_1 142 (by decide +kernel) rfl
  | 3, _ => exact tb_1 144 (by decide +kernel) rfl
  | 4, _ => exact tb_1 146 (by decide +kernel) rfl
  | 5, _ => exact tb_1 148 (by decide +kernel) rfl
  | 6, _ => exact tb_1 150 (by decide +kernel) rfl
  | 7, _ => exact tb_1 152 (by decide +kernel) rfl
  | 8, _ => exact tb_1 154 (by decide +kernel) rfl
  | 9, _ => exact tb_1 156 (by decide +kernel) rfl
  | j + 10, hj => omega
theorem instX2 : Cond.instantiable RX2 10 ∈ gw_W0 := tb_1 24 (by decide +kernel) rfl
theorem inUX3 : ∀ w ∈ u_ws RX3 TX3 4, w ∈ gw_W0 := by
  show ∀ w ∈ (List.range 4).map (u_lay RX3 TX3), w ∈ gw_W0
  intro w hw
  obtain ⟨i, hi, rfl⟩ := List.mem_map.mp hw
  have hi := List.mem_range.mp hi
  match i, hi with
  | 0, _ => exact tb_1 65 (by decide +kernel) rfl
  | 1, _ => exact tb_1 67 (by decide +kernel) rfl
  | 2, _ => exact tb_1 69 (by decide +kernel) rfl
  | 3, _ => exact tb_1 71 (by decide +kernel) rfl
  | j + 4, hj => omega
theorem instX3 : Cond.instantiable RX3 4 ∈ gw_W0 := tb_1 51 (by decide +kernel) rfl
theorem inUX4 : ∀ w ∈ u_ws RX4 TX4 2, w ∈ gw_W0 := by
  show ∀ w ∈ (List.range 2).map (u_lay RX4 TX4), w ∈ gw_W0
  intro w hw
  obtain ⟨i, hi, rfl⟩ := List.mem_map.mp hw
  have hi := List.mem_range.mp hi
  match i, hi with
  | 0, _ => exact tb_1 168 (by decide +kernel) rfl
  | 1, _ => exact tb_1 170 (by decide +kernel) rfl
  | j + 2, hj => omega
theorem instX4 : Cond.instantiable RX4 2 ∈ gw_W0 := tb_1 160 (by decide +kernel) rfl
theorem inUX5 : ∀ w ∈ u_ws RX5 TX5 8, w ∈ gw_W0 := by
  show ∀ w ∈ (List.range 8).map (u_lay RX5 TX5), w ∈ gw_W0
  intro w hw
  obtain ⟨i, hi, rfl⟩ := List.mem_map.mp hw
  have hi := List.mem_range.mp hi
  match i, hi with
  | 0, _ => exact tb_1 181 (by decide +kernel) rfl
  | 1, _ => exact tb_1 183 (by decide +kernel) rfl
  | 2, _ => exact tb_1 185 (by decide +kernel) rfl
  | 3, _ => exact tb_1 187 (by decide +kernel) rfl
  | 4, _ => exact tb_1 189 (by decide +kernel) rfl
  | 5, _ => exact tb_1 191 (by decide +kernel) rfl
  | 6, _ => exact tb_1 193 (by decide +kernel) rfl
  | 7, _ => exact tb_1 195 (by decide +kernel) rfl
  | j + 8, hj => omega
theorem instX5 : Cond.instantiable RX5 8 ∈ gw_W0 := tb_1 16 (by decide +kernel) rfl
theorem inUX6 : ∀ w ∈ u_ws RX6 TX6 17, w ∈ gw_W0 := by
  show ∀ w ∈ (List.range 17).map (u_lay RX6 TX6), w ∈ gw_W0
  intro w hw
  obtain ⟨i, hi, rfl⟩ := List.mem_map.mp hw
  have hi := List.mem_range.mp hi
  match i, hi with
  | 0, _ => exact tb_4 2 (by decide +kernel) rfl
  | 1, _ => exact tb_4 4 (by decide +kernel) rfl
  | 2, _ => exact tb_4 6 (by decide +kernel) rfl
  | 3, _ => exact tb_4 8 (by decide +kernel) rfl
  | 4, _ => exact tb_4 10 (by decide +kernel) rfl
  | 5, _ => exact tb_4 12 (by decide +kernel) rfl
  | 6, _ => exact tb_4 14 (by decide +kernel) rfl
  | 7, _ => exact tb_4 16 (by decide +kernel) rfl
  | 8, _ => exact tb_4 18 (by decide +kernel) rfl
  | 9, _ => exact tb_4 20 (by decide +kernel) rfl
  | 10, _ => exact tb_4 22 (by decide +kernel) rfl
  | 11, _ => exact tb_4 24 (by decide +kernel) rfl
  | 12, _ => exact tb_4 26 (by decide +kernel) rfl
  | 13, _ => exact tb_4 28 (by decide +kernel) rfl
  | 14, _ => exact tb_4 30 (by decide +kernel) rfl
  | 15, _ => exact tb_4 32 (by decide +kernel) rfl
  | 16, _ => exact tb_4 34 (by decide +kernel) rfl
  | j + 17, hj => omega
theorem instX6 : Cond.instantiable RX6 17 ∈ gw_W0 := tb_3 220 (by decide +kernel) rfl
theorem wd_ainit : Cond.instanceMethod objectInit ∈ gw_W0 := tb_1 21 (by decide +kernel) rfl
theorem wd_acode : Cond.code objectInit ⟨#[0xb1]⟩ 1 none ∈ gw_W0 := tb_1 22 (by decide +kernel) rfl
theorem wd_arrI : Cond.arrayClass .int ∈ gw_W0 := tb_1 49 (by decide +kernel) rfl
theorem wd_min : Cond.static Lib.Math.min.name ∈ gw_W0 ∧ Cond.initialized "java/lang/Math" ∈ gw_W0 ∧ Cond.code Lib.Math.min.name Lib.Math.min.code 2 (some .int) ∈ gw_W0 := ⟨tb_2 39 (by decide +kernel) rfl, tb_1 10 (by decide +kernel) rfl, tb_2 40 (by decide +kernel) rfl⟩
theorem wd_max : Cond.static Lib.Math.max.name ∈ gw_W0 ∧ Cond.initialized "java/lang/Math" ∈ gw_W0 ∧ Cond.code Lib.Math.max.name Lib.Math.max.code 2 (some .int) ∈ gw_W0 := ⟨tb_2 36 (by decide +kernel) rfl, tb_1 10 (by decide +kernel) rfl, tb_2 37 (by decide +kernel) rfl⟩
theorem wd_acopy : Cond.native arraycopyName ∈ gw_W0 ∧ Cond.static arraycopyName ∈ gw_W0 ∧ Cond.initialized "java/lang/System" ∈ gw_W0 := ⟨tb_2 119 (by decide +kernel) rfl, tb_2 118 (by decide +kernel) rfl, tb_1 14 (by decide +kernel) rfl⟩
end
section
theorem dX0_init_0 : decode cX0_init 0 = .ok (.aload_n 0, 1) := by decide +kernel
theorem dX0_init_1 : decode cX0_init 1 = .ok (.invokespecial 3, 3) := by decide +kernel
theorem dX0_init_4 : decode cX0_init 4 = .ok (.aload_n 0, 1) := by decide +kernel
theorem dX0_init_5 : decode cX0_init 5 = .ok (.bipush 8, 2) := by decide +kernel
theorem dX0_init_7 : decode cX0_init 7 = .ok (.newarray .int, 2) := by decide +kernel
theorem dX0_init_9 : decode cX0_init 9 = .ok (.putfield 9, 3) := by decide +kernel
theorem dX0_init_12 : decode cX0_init 12 = .ok (.aload_n 0, 1) := by decide +kernel
theorem dX0_init_13 : decode cX0_init 13 = .ok (.bipush 8, 2) := by decide +kernel
theorem dX0_init_15 : decode cX0_init 15 = .ok (.newarray .int, 2) := by decide +kernel
theorem dX0_init_17 : decode cX0_init 17 = .ok (.putfield 15, 3) := by decide +kernel
theorem dX0_init_20 : decode cX0_init 20 = .ok (.aload_n 0, 1) := by decide +kernel
theorem dX0_init_21 : decode cX0_init 21 = .ok (.bipush 8, 2) := by decide +kernel
theorem dX0_init_23 : decode cX0_init 23 = .ok (.newarray .int, 2) := by decide +kernel
theorem dX0_init_25 : decode cX0_init 25 = .ok (.putfield 18, 3) := by decide +kernel
theorem dX0_init_28 : decode cX0_init 28 = .ok (.aload_n 0, 1) := by decide +kernel
theorem dX0_init_29 : decode cX0_init 29 = .ok (.iconst 0, 1) := by decide +kernel
theorem dX0_init_30 : decode cX0_init 30 = .ok (.putfield 21, 3) := by decide +kernel
theorem dX0_init_33 : decode cX0_init 33 = .ok (.return_, 1) := by decide +kernel
theorem dX0_has_0 : decode cX0_has 0 = .ok (.iload_n 1, 1) := by decide +kernel
theorem dX0_has_1 : decode cX0_has 1 = .ok (.ifCond .lt 15, 3) := by decide +kernel
theorem dX0_has_4 : decode cX0_has 4 = .ok (.iload_n 1, 1) := by decide +kernel
theorem dX0_has_5 : decode cX0_has 5 = .ok (.aload_n 0, 1) := by decide +kernel
theorem dX0_has_6 : decode cX0_has 6 = .ok (.getfield 21, 3) := by decide +kernel
theorem dX0_has_9 : decode cX0_has 9 = .ok (.if_icmp .ge 7, 3) := by decide +kernel
theorem dX0_has_12 : decode cX0_has 12 = .ok (.iconst 1, 1) := by decide +kernel
theorem dX0_has_13 : decode cX0_has 13 = .ok (.goto 4, 3) := by decide +kernel
theorem dX0_has_16 : decode cX0_has 16 = .ok (.iconst 0, 1) := by decide +kernel
theorem dX0_has_17 : decode cX0_has 17 = .ok (.ireturn, 1) := by decide +kernel
theorem dX0_add_0 : decode cX0_add 0 = .ok (.aload_n 0, 1) := by decide +kernel
theorem dX0_add_1 : decode cX0_add 1 = .ok (.getfield 21, 3) := by decide +kernel
theorem dX0_add_4 : decode cX0_add 4 = .ok (.bipush 8, 2) := by decide +kernel
theorem dX0_add_6 : decode cX0_add 6 = .ok (.if_icmp .ge 22, 3) := by decide +kernel
theorem dX0_add_9 : decode cX0_add 9 = .ok (.iload_n 1, 1) := by decide +kernel
theorem dX0_add_10 : decode cX0_add 10 = .ok (.invokestatic 25, 3) := by decide +kernel
theorem dX0_add_13 : decode cX0_add 13 = .ok (.ifCond .eq 15, 3) := by decide +kernel
theorem dX0_add_16 : decode cX0_add 16 = .ok (.iload_n 2, 1) := by decide +kernel
theorem dX0_add_17 : decode cX0_add 17 = .ok (.invokestatic 25, 3) := by decide +kernel
theorem dX0_add_20 : decode cX0_add 20 = .ok (.ifCond .eq 8, 3) := by decide +kernel
theorem dX0_add_23 : decode cX0_add 23 = .ok (.iload_n 1, 1) := by decide +kernel
theorem dX0_add_24 : decode cX0_add 24 = .ok (.iload_n 2, 1) := by decide +kernel
theorem dX0_add_25 : decode cX0_add 25 = .ok (.if_icmp .ne 5, 3) := by decide +kernel
theorem dX0_add_28 : decode cX0_add 28 = .ok (.iconst 0, 1) := by decide +kernel
theorem dX0_add_29 : decode cX0_add 29 = .ok (.ireturn, 1) := by decide +kernel
theorem dX0_add_30 : decode cX0_add 30 = .ok (.aload_n 0, 1) := by decide +kernel
theorem dX0_add_31 : decode cX0_add 31 = .ok (.getfield 9, 3) := by decide +kernel
theorem dX0_add_34 : decode cX0_add 34 = .ok (.aload_n 0, 1) := by decide +kernel
theorem dX0_add_35 : decode cX0_add 35 = .ok (.getfield 21, 3) := by decide +kernel
theorem dX0_add_38 : decode cX0_add 38 = .ok (.iload_n 1, 1) := by decide +kernel
theorem dX0_add_39 : decode cX0_add 39 = .ok (.invokestatic 29, 3) := by decide +kernel
theorem dX0_add_42 : decode cX0_add 42 = .ok (.aload_n 0, 1) := by decide +kernel
theorem dX0_add_43 : decode cX0_add 43 = .ok (.getfield 15, 3) := by decide +kernel
theorem dX0_add_46 : decode cX0_add 46 = .ok (.aload_n 0, 1) := by decide +kernel
theorem dX0_add_47 : decode cX0_add 47 = .ok (.getfield 21, 3) := by decide +kernel
theorem dX0_add_50 : decode cX0_add 50 = .ok (.iload_n 2, 1) := by decide +kernel
theorem dX0_add_51 : decode cX0_add 51 = .ok (.invokestatic 29, 3) := by decide +kernel
theorem dX0_add_54 : decode cX0_add 54 = .ok (.aload_n 0, 1) := by decide +kernel
theorem dX0_add_55 : decode cX0_add 55 = .ok (.getfield 18, 3) := by decide +kernel
theorem dX0_add_58 : decode cX0_add 58 = .ok (.aload_n 0, 1) := by decide +kernel
theorem dX0_add_59 : decode cX0_add 59 = .ok (.getfield 21, 3) := by decide +kernel
theorem dX0_add_62 : decode cX0_add 62 = .ok (.iconst 1, 1) := by decide +kernel
theorem dX0_add_63 : decode cX0_add 63 = .ok (.invokestatic 29, 3) := by decide +kernel
theorem dX0_add_66 : decode cX0_add 66 = .ok (.aload_n 0, 1) := by decide +kernel
theorem dX0_add_67 : decode cX0_add 67 = .ok (.dup, 1) := by decide +kernel
theorem dX0_add_68 : decode cX0_add 68 = .ok (.getfield 21, 3) := by decide +kernel
theorem dX0_add_71 : decode cX0_add 71 = .ok (.iconst 1, 1) := by decide +kernel
theorem dX0_add_72 : decode cX0_add 72 = .ok (.iadd, 1) := by decide +kernel
theorem dX0_add_73 : decode cX0_add 73 = .ok (.putfield 21, 3) := by decide +kernel
theorem dX0_add_76 : decode cX0_add 76 = .ok (.iconst 1, 1) := by decide +kernel
theorem dX0_add_77 : decode cX0_add 77 = .ok (.ireturn, 1) := by decide +kernel
theorem dX0_isOpen_0 : decode cX0_isOpen 0 = .ok (.aload_n 0, 1) := by decide +kernel
theorem dX0_isOpen_1 : decode cX0_isOpen 1 = .ok (.iload_n 1, 1) := by decide +kernel
theorem dX0_isOpen_2 : decode cX0_isOpen 2 = .ok (.invokevirtual 33, 3) := by decide +kernel
theorem dX0_isOpen_5 : decode cX0_isOpen 5 = .ok (.ifCond .eq 19, 3) := by decide +kernel
theorem dX0_isOpen_8 : decode cX0_isOpen 8 = .ok (.aload_n 0, 1) := by decide +kernel
theorem dX0_isOpen_9 : decode cX0_isOpen 9 = .ok (.getfield 18, 3) := by decide +kernel
theorem dX0_isOpen_12 : decode cX0_isOpen 12 = .ok (.iload_n 1, 1) := by decide +kernel
theorem dX0_isOpen_13 : decode cX0_isOpen 13 = .ok (.invokestatic 36, 3) := by decide +kernel
theorem dX0_isOpen_16 : decode cX0_isOpen 16 = .ok (.iconst 1, 1) := by decide +kernel
theorem dX0_isOpen_17 : decode cX0_isOpen 17 = .ok (.if_icmp .ne 7, 3) := by decide +kernel
theorem dX0_isOpen_20 : decode cX0_isOpen 20 = .ok (.iconst 1, 1) := by decide +kernel
theorem dX0_isOpen_21 : decode cX0_isOpen 21 = .ok (.goto 4, 3) := by decide +kernel
theorem dX0_isOpen_24 : decode cX0_isOpen 24 = .ok (.iconst 0, 1) := by decide +kernel
theorem dX0_isOpen_25 : decode cX0_isOpen 25 = .ok (.ireturn, 1) := by decide +kernel
theorem dX0_turn_0 : decode cX0_turn 0 = .ok (.aload_n 0, 1) := by decide +kernel
theorem dX0_turn_1 : decode cX0_turn 1 = .ok (.getfield 18, 3) := by decide +kernel
theorem dX0_turn_4 : decode cX0_turn 4 = .ok (.iload_n 1, 1) := by decide +kernel
theorem dX0_turn_5 : decode cX0_turn 5 = .ok (.aload_n 0, 1) := by decide +kernel
theorem dX0_turn_6 : decode cX0_turn 6 = .ok (.iload_n 1, 1) := by decide +kernel
theorem dX0_turn_7 : decode cX0_turn 7 = .ok (.invokevirtual 40, 3) := by decide +kernel
theorem dX0_turn_10 : decode cX0_turn 10 = .ok (.ifCond .eq 7, 3) := by decide +kernel
theorem dX0_turn_13 : decode cX0_turn 13 = .ok (.iconst 0, 1) := by decide +kernel
theorem dX0_turn_14 : decode cX0_turn 14 = .ok (.goto 4, 3) := by decide +kernel
theorem dX0_turn_17 : decode cX0_turn 17 = .ok (.iconst 1, 1) := by decide +kernel
theorem dX0_turn_18 : decode cX0_turn 18 = .ok (.invokestatic 29, 3) := by decide +kernel
theorem dX0_turn_21 : decode cX0_turn 21 = .ok (.aload_n 0, 1) := by decide +kernel
theorem dX0_turn_22 : decode cX0_turn 22 = .ok (.getfield 18, 3) := by decide +kernel
theorem dX0_turn_25 : decode cX0_turn 25 = .ok (.iload_n 1, 1) := by decide +kernel
theorem dX0_turn_26 : decode cX0_turn 26 = .ok (.invokestatic 36, 3) := by decide +kernel
theorem dX0_turn_29 : decode cX0_turn 29 = .ok (.ireturn, 1) := by decide +kernel
theorem dX0_openOnes_0 : decode cX0_openOnes 0 = .ok (.iconst 0, 1) := by decide +kernel
theorem dX0_openOnes_1 : decode cX0_openOnes 1 = .ok (.istore_n 1, 1) := by decide +kernel
theorem dX0_openOnes_2 : decode cX0_openOnes 2 = .ok (.iconst 0, 1) := by decide +kernel
theorem dX0_openOnes_3 : decode cX0_openOnes 3 = .ok (.istore_n 2, 1) := by decide +kernel
theorem dX0_openOnes_4 : decode cX0_openOnes 4 = .ok (.iload_n 2, 1) := by decide +kernel
theorem dX0_openOnes_5 : decode cX0_openOnes 5 = .ok (.aload_n 0, 1) := by decide +kernel
theorem dX0_openOnes_6 : decode cX0_openOnes 6 = .ok (.getfield 21, 3) := by decide +kernel
theorem dX0_openOnes_9 : decode cX0_openOnes 9 = .ok (.if_icmp .ge 25, 3) := by decide +kernel
theorem dX0_openOnes_12 : decode cX0_openOnes 12 = .ok (.iload_n 1, 1) := by decide +kernel
theorem dX0_openOnes_13 : decode cX0_openOnes 13 = .ok (.aload_n 0, 1) := by decide +kernel
theorem dX0_openOnes_14 : decode cX0_openOnes 14 = .ok (.iload_n 2, 1) := by decide +kernel
theorem dX0_openOnes_15 : decode cX0_openOnes 15 = .ok (.invokevirtual 40, 3) := by decide +kernel
theorem dX0_openOnes_18 : decode cX0_openOnes 18 = .ok (.ifCond .eq 7, 3) := by decide +kernel
theorem dX0_openOnes_21 : decode cX0_openOnes 21 = .ok (.iconst 1, 1) := by decide +kernel
theorem dX0_openOnes_22 : decode cX0_openOnes 22 = .ok (.goto 4, 3) := by decide +kernel
theorem dX0_openOnes_25 : decode cX0_openOnes 25 = .ok (.iconst 0, 1) := by decide +kernel
theorem dX0_openOnes_26 : decode cX0_openOnes 26 = .ok (.iadd, 1) := by decide +kernel
theorem dX0_openOnes_27 : decode cX0_openOnes 27 = .ok (.istore_n 1, 1) := by decide +kernel
theorem dX0_openOnes_28 : decode cX0_openOnes 28 = .ok (.iinc 2 1, 3) := by decide +kernel
theorem dX0_openOnes_31 : decode cX0_openOnes 31 = .ok (.goto (-27), 3) := by decide +kernel
theorem dX0_openOnes_34 : decode cX0_openOnes 34 = .ok (.iload_n 1, 1) := by decide +kernel
theorem dX0_openOnes_35 : decode cX0_openOnes 35 = .ok (.ireturn, 1) := by decide +kernel
theorem dX0_roomsHeardIn_0 : decode cX0_roomsHeardIn 0 = .ok (.iconst 1, 1) := by decide +kernel
theorem dX0_roomsHeardIn_1 : decode cX0_roomsHeardIn 1 = .ok (.iload_n 1, 1) := by decide +kernel
theorem dX0_roomsHeardIn_2 : decode cX0_roomsHeardIn 2 = .ok (.ishl, 1) := by decide +kernel
theorem dX0_roomsHeardIn_3 : decode cX0_roomsHeardIn 3 = .ok (.istore_n 2, 1) := by decide +kernel
theorem dX0_roomsHeardIn_4 : decode cX0_roomsHeardIn 4 = .ok (.iconst 0, 1) := by decide +kernel
theorem dX0_roomsHeardIn_5 : decode cX0_roomsHeardIn 5 = .ok (.istore_n 3, 1) := by decide +kernel
theorem dX0_roomsHeardIn_6 : decode cX0_roomsHeardIn 6 = .ok (.iload_n 3, 1) := by decide +kernel
theorem dX0_roomsHeardIn_7 : decode cX0_roomsHeardIn 7 = .ok (.aload_n 0, 1) := by decide +kernel
theorem dX0_roomsHeardIn_8 : decode cX0_roomsHeardIn 8 = .ok (.getfield 21, 3) := by decide +kernel
theorem dX0_roomsHeardIn_11 : decode cX0_roomsHeardIn 11 = .ok (.if_icmp .ge 83, 3) := by decide +kernel
theorem dX0_roomsHeardIn_14 : decode cX0_roomsHeardIn 14 = .ok (.aload_n 0, 1) := by decide +kernel
theorem dX0_roomsHeardIn_15 : decode cX0_roomsHeardIn 15 = .ok (.getfield 18, 3) := by decide +kernel
theorem dX0_roomsHeardIn_18 : decode cX0_roomsHeardIn 18 = .ok (.iload_n 3, 1) := by decide +kernel
theorem dX0_roomsHeardIn_19 : decode cX0_roomsHeardIn 19 = .ok (.invokestatic 36, 3) := by decide +kernel
theorem dX0_roomsHeardIn_22 : decode cX0_roomsHeardIn 22 = .ok (.iconst 1, 1) := by decide +kernel
theorem dX0_roomsHeardIn_23 : decode cX0_roomsHeardIn 23 = .ok (.if_icmp .ne 28, 3) := by decide +kernel
theorem dX0_roomsHeardIn_26 : decode cX0_roomsHeardIn 26 = .ok (.aload_n 0, 1) := by decide +kernel
theorem dX0_roomsHeardIn_27 : decode cX0_roomsHeardIn 27 = .ok (.getfield 9, 3) := by decide +kernel
theorem dX0_roomsHeardIn_30 : decode cX0_roomsHeardIn 30 = .ok (.iload_n 3, 1) := by decide +kernel
theorem dX0_roomsHeardIn_31 : decode cX0_roomsHeardIn 31 = .ok (.invokestatic 36, 3) := by decide +kernel
theorem dX0_roomsHeardIn_34 : decode cX0_roomsHeardIn 34 = .ok (.iload_n 1, 1) := by decide +kernel
theorem dX0_roomsHeardIn_35 : decode cX0_roomsHeardIn 35 = .ok (.if_icmp .ne 16, 3) := by decide +kernel
theorem dX0_roomsHeardIn_38 : decode cX0_roomsHeardIn 38 = .ok (.iload_n 2, 1) := by decide +kernel
theorem dX0_roomsHeardIn_39 : decode cX0_roomsHeardIn 39 = .ok (.iconst 1, 1) := by decide +kernel
theorem dX0_roomsHeardIn_40 : decode cX0_roomsHeardIn 40 = .ok (.aload_n 0, 1) := by decide +kernel
theorem dX0_roomsHeardIn_41 : decode cX0_roomsHeardIn 41 = .ok (.getfield 15, 3) := by decide +kernel
theorem dX0_roomsHeardIn_44 : decode cX0_roomsHeardIn 44 = .ok (.iload_n 3, 1) := by decide +kernel
theorem dX0_roomsHeardIn_45 : decode cX0_roomsHeardIn 45 = .ok (.invokestatic 36, 3) := by decide +kernel
theorem dX0_roomsHeardIn_48 : decode cX0_roomsHeardIn 48 = .ok (.ishl, 1) := by decide +kernel
theorem dX0_roomsHeardIn_49 : decode cX0_roomsHeardIn 49 = .ok (.ior, 1) := by decide +kernel
theorem dX0_roomsHeardIn_50 : decode cX0_roomsHeardIn 50 = .ok (.istore_n 2, 1) := by decide +kernel
theorem dX0_roomsHeardIn_51 : decode cX0_roomsHeardIn 51 = .ok (.aload_n 0, 1) := by decide +kernel
theorem dX0_roomsHeardIn_52 : decode cX0_roomsHeardIn 52 = .ok (.getfield 18, 3) := by decide +kernel
theorem dX0_roomsHeardIn_55 : decode cX0_roomsHeardIn 55 = .ok (.iload_n 3, 1) := by decide +kernel
theorem dX0_roomsHeardIn_56 : decode cX0_roomsHeardIn 56 = .ok (.invokestatic 36, 3) := by decide +kernel
theorem dX0_roomsHeardIn_59 : decode cX0_roomsHeardIn 59 = .ok (.iconst 1, 1) := by decide +kernel
theorem dX0_roomsHeardIn_60 : decode cX0_roomsHeardIn 60 = .ok (.if_icmp .ne 28, 3) := by decide +kernel
theorem dX0_roomsHeardIn_63 : decode cX0_roomsHeardIn 63 = .ok (.aload_n 0, 1) := by decide +kernel
theorem dX0_roomsHeardIn_64 : decode cX0_roomsHeardIn 64 = .ok (.getfield 15, 3) := by decide +kernel
theorem dX0_roomsHeardIn_67 : decode cX0_roomsHeardIn 67 = .ok (.iload_n 3, 1) := by decide +kernel
theorem dX0_roomsHeardIn_68 : decode cX0_roomsHeardIn 68 = .ok (.invokestatic 36, 3) := by decide +kernel
theorem dX0_roomsHeardIn_71 : decode cX0_roomsHeardIn 71 = .ok (.iload_n 1, 1) := by decide +kernel
theorem dX0_roomsHeardIn_72 : decode cX0_roomsHeardIn 72 = .ok (.if_icmp .ne 16, 3) := by decide +kernel
theorem dX0_roomsHeardIn_75 : decode cX0_roomsHeardIn 75 = .ok (.iload_n 2, 1) := by decide +kernel
theorem dX0_roomsHeardIn_76 : decode cX0_roomsHeardIn 76 = .ok (.iconst 1, 1) := by decide +kernel
theorem dX0_roomsHeardIn_77 : decode cX0_roomsHeardIn 77 = .ok (.aload_n 0, 1) := by decide +kernel
theorem dX0_roomsHeardIn_78 : decode cX0_roomsHeardIn 78 = .ok (.getfield 9, 3) := by decide +kernel
theorem dX0_roomsHeardIn_81 : decode cX0_roomsHeardIn 81 = .ok (.iload_n 3, 1) := by decide +kernel
theorem dX0_roomsHeardIn_82 : decode cX0_roomsHeardIn 82 = .ok (.invokestatic 36, 3) := by decide +kernel
theorem dX0_roomsHeardIn_85 : decode cX0_roomsHeardIn 85 = .ok (.ishl, 1) := by decide +kernel
theorem dX0_roomsHeardIn_86 : decode cX0_roomsHeardIn 86 = .ok (.ior, 1) := by decide +kernel
theorem dX0_roomsHeardIn_87 : decode cX0_roomsHeardIn 87 = .ok (.istore_n 2, 1) := by decide +kernel
theorem dX0_roomsHeardIn_88 : decode cX0_roomsHeardIn 88 = .ok (.iinc 3 1, 3) := by decide +kernel
theorem dX0_roomsHeardIn_91 : decode cX0_roomsHeardIn 91 = .ok (.goto (-85), 3) := by decide +kernel
theorem dX0_roomsHeardIn_94 : decode cX0_roomsHeardIn 94 = .ok (.iload_n 2, 1) := by decide +kernel
theorem dX0_roomsHeardIn_95 : decode cX0_roomsHeardIn 95 = .ok (.ireturn, 1) := by decide +kernel
theorem dX0_takeAs_0 : decode cX0_takeAs 0 = .ok (.aload_n 1, 1) := by decide +kernel
theorem dX0_takeAs_1 : decode cX0_takeAs 1 = .ok (.getfield 9, 3) := by decide +kernel
theorem dX0_takeAs_4 : decode cX0_takeAs 4 = .ok (.aload_n 0, 1) := by decide +kernel
theorem dX0_takeAs_5 : decode cX0_takeAs 5 = .ok (.getfield 9, 3) := by decide +kernel
theorem dX0_takeAs_8 : decode cX0_takeAs 8 = .ok (.invokestatic 43, 3) := by decide +kernel
theorem dX0_takeAs_11 : decode cX0_takeAs 11 = .ok (.aload_n 1, 1) := by decide +kernel
theorem dX0_takeAs_12 : decode cX0_takeAs 12 = .ok (.getfield 15, 3) := by decide +kernel
theorem dX0_takeAs_15 : decode cX0_takeAs 15 = .ok (.aload_n 0, 1) := by decide +kernel
theorem dX0_takeAs_16 : decode cX0_takeAs 16 = .ok (.getfield 15, 3) := by decide +kernel
theorem dX0_takeAs_19 : decode cX0_takeAs 19 = .ok (.invokestatic 43, 3) := by decide +kernel
theorem dX0_takeAs_22 : decode cX0_takeAs 22 = .ok (.aload_n 1, 1) := by decide +kernel
theorem dX0_takeAs_23 : decode cX0_takeAs 23 = .ok (.getfield 18, 3) := by decide +kernel
theorem dX0_takeAs_26 : decode cX0_takeAs 26 = .ok (.aload_n 0, 1) := by decide +kernel
theorem dX0_takeAs_27 : decode cX0_takeAs 27 = .ok (.getfield 18, 3) := by decide +kernel
theorem dX0_takeAs_30 : decode cX0_takeAs 30 = .ok (.invokestatic 43, 3) := by decide +kernel
theorem dX0_takeAs_33 : decode cX0_takeAs 33 = .ok (.aload_n 0, 1) := by decide +kernel
theorem dX0_takeAs_34 : decode cX0_takeAs 34 = .ok (.aload_n 1, 1) := by decide +kernel
theorem dX0_takeAs_35 : decode cX0_takeAs 35 = .ok (.getfield 21, 3) := by decide +kernel
theorem dX0_takeAs_38 : decode cX0_takeAs 38 = .ok (.putfield 21, 3) := by decide +kernel
theorem dX0_takeAs_41 : decode cX0_takeAs 41 = .ok (.return_, 1) := by decide +kernel
theorem dX1_init_0 : decode cX1_init 0 = .ok (.aload_n 0, 1) := by decide +kernel
theorem dX1_init_1 : decode cX1_init 1 = .ok (.invokespecial 3, 3) := by decide +kernel
theorem dX1_init_4 : decode cX1_init 4 = .ok (.aload_n 0, 1) := by decide +kernel
theorem dX1_init_5 : decode cX1_init 5 = .ok (.bipush 6, 2) := by decide +kernel
theorem dX1_init_7 : decode cX1_init 7 = .ok (.newarray .int, 2) := by decide +kernel
theorem dX1_init_9 : decode cX1_init 9 = .ok (.putfield 9, 3) := by decide +kernel
theorem dX1_init_12 : decode cX1_init 12 = .ok (.aload_n 0, 1) := by decide +kernel
theorem dX1_init_13 : decode cX1_init 13 = .ok (.bipush 6, 2) := by decide +kernel
theorem dX1_init_15 : decode cX1_init 15 = .ok (.newarray .int, 2) := by decide +kernel
theorem dX1_init_17 : decode cX1_init 17 = .ok (.putfield 15, 3) := by decide +kernel
theorem dX1_init_20 : decode cX1_init 20 = .ok (.aload_n 0, 1) := by decide +kernel
theorem dX1_init_21 : decode cX1_init 21 = .ok (.bipush 6, 2) := by decide +kernel
theorem dX1_init_23 : decode cX1_init 23 = .ok (.newarray .int, 2) := by decide +kernel
theorem dX1_init_25 : decode cX1_init 25 = .ok (.putfield 18, 3) := by decide +kernel
theorem dX1_init_28 : decode cX1_init 28 = .ok (.aload_n 0, 1) := by decide +kernel
theorem dX1_init_29 : decode cX1_init 29 = .ok (.bipush 6, 2) := by decide +kernel
theorem dX1_init_31 : decode cX1_init 31 = .ok (.newarray .int, 2) := by decide +kernel
theorem dX1_init_33 : decode cX1_init 33 = .ok (.putfield 21, 3) := by decide +kernel
theorem dX1_init_36 : decode cX1_init 36 = .ok (.aload_n 0, 1) := by decide +kernel
theorem dX1_init_37 : decode cX1_init 37 = .ok (.bipush 6, 2) := by decide +kernel
theorem dX1_init_39 : decode cX1_init 39 = .ok (.newarray .int, 2) := by decide +kernel
theorem dX1_init_41 : decode cX1_init 41 = .ok (.putfield 24, 3) := by decide +kernel
theorem dX1_init_44 : decode cX1_init 44 = .ok (.aload_n 0, 1) := by decide +kernel
theorem dX1_init_45 : decode cX1_init 45 = .ok (.bipush 6, 2) := by decide +kernel
theorem dX1_init_47 : decode cX1_init 47 = .ok (.newarray .int, 2) := by decide +kernel
theorem dX1_init_49 : decode cX1_init 49 = .ok (.putfield 27, 3) := by decide +kernel
theorem dX1_init_52 : decode cX1_init 52 = .ok (.aload_n 0, 1) := by decide +kernel
theorem dX1_init_53 : decode cX1_init 53 = .ok (.bipush 6, 2) := by decide +kernel
theorem dX1_init_55 : decode cX1_init 55 = .ok (.newarray .int, 2) := by decide +kernel
theorem dX1_init_57 : decode cX1_init 57 = .ok (.putfield 30, 3) := by decide +kernel
theorem dX1_init_60 : decode cX1_init 60 = .ok (.aload_n 0, 1) := by decide +kernel
theorem dX1_init_61 : decode cX1_init 61 = .ok (.bipush 6, 2) := by decide +kernel
theorem dX1_init_63 : decode cX1_init 63 = .ok (.newarray .int, 2) := by decide +kernel
theorem dX1_init_65 : decode cX1_init 65 = .ok (.putfield 33, 3) := by decide +kernel
theorem dX1_init_68 : decode cX1_init 68 = .ok (.aload_n 0, 1) := by decide +kernel
theorem dX1_init_69 : decode cX1_init 69 = .ok (.iconst 0, 1) := by decide +kernel
theorem dX1_init_70 : decode cX1_init 70 = .ok (.putfield 36, 3) := by decide +kernel
theorem dX1_init_73 : decode cX1_init 73 = .ok (.return_, 1) := by decide +kernel
theorem dX1_has_0 : decode cX1_has 0 = .ok (.iload_n 1, 1) := by decide +kernel
theorem dX1_has_1 : decode cX1_has 1 = .ok (.ifCond .lt 15, 3) := by decide +kernel
theorem dX1_has_4 : decode cX1_has 4 = .ok (.iload_n 1, 1) := by decide +kernel
theorem dX1_has_5 : decode cX1_has 5 = .ok (.aload_n 0, 1) := by decide +kernel
theorem dX1_has_6 : decode cX1_has 6 = .ok (.getfield 36, 3) := by decide +kernel
theorem dX1_has_9 : decode cX1_has 9 = .ok (.if_icmp .ge 7, 3) := by decide +kernel
theorem dX1_has_12 : decode cX1_has 12 = .ok (.iconst 1, 1) := by decide +kernel
theorem dX1_has_13 : decode cX1_has 13 = .ok (.goto 4, 3) := by decide +kernel
theorem dX1_has_16 : decode cX1_has 16 = .ok (.iconst 0, 1) := by decide +kernel
theorem dX1_has_17 : decode cX1_has 17 = .ok (.ireturn, 1) := by decide +kernel
theorem dX1_add_0 : decode cX1_add 0 = .ok (.aload_n 0, 1) := by decide +kernel
theorem dX1_add_1 : decode cX1_add 1 = .ok (.getfield 36, 3) := by decide +kernel
theorem dX1_add_4 : decode cX1_add 4 = .ok (.bipush 6, 2) := by decide +kernel
theorem dX1_add_6 : decode cX1_add 6 = .ok (.if_icmp .ge 10, 3) := by decide +kernel
theorem dX1_add_9 : decode cX1_add 9 = .ok (.iload_n 2, 1) := by decide +kernel
theorem dX1_add_10 : decode cX1_add 10 = .ok (.invokestatic 40, 3) := by decide +kernel
theorem dX1_add_13 : decode cX1_add 13 = .ok (.ifCond .ne 5, 3) := by decide +kernel
theorem dX1_add_16 : decode cX1_add 16 = .ok (.iconst 0, 1) := by decide +kernel
theorem dX1_add_17 : decode cX1_add 17 = .ok (.ireturn, 1) := by decide +kernel
theorem dX1_add_18 : decode cX1_add 18 = .ok (.aload_n 0, 1) := by decide +kernel
theorem dX1_add_19 : decode cX1_add 19 = .ok (.getfield 9, 3) := by decide +kernel
theorem dX1_add_22 : decode cX1_add 22 = .ok (.aload_n 0, 1) := by decide +kernel
theorem dX1_add_23 : decode cX1_add 23 = .ok (.getfield 36, 3) := by decide +kernel
theorem dX1_add_26 : decode cX1_add 26 = .ok (.iload_n 1, 1) := by decide +kernel
theorem dX1_add_27 : decode cX1_add 27 = .ok (.invokestatic 44, 3) := by decide +kernel
theorem dX1_add_30 : decode cX1_add 30 = .ok (.aload_n 0, 1) := by decide +kernel
theorem dX1_add_31 : decode cX1_add 31 = .ok (.getfield 15, 3) := by decide +kernel
theorem dX1_add_34 : decode cX1_add 34 = .ok (.aload_n 0, 1) := by decide +kernel
theorem dX1_add_35 : decode cX1_add 35 = .ok (.getfield 36, 3) := by decide +kernel
theorem dX1_add_38 : decode cX1_add 38 = .ok (.iload_n 2, 1) := by decide +kernel
theorem dX1_add_39 : decode cX1_add 39 = .ok (.invokestatic 44, 3) := by decide +kernel
theorem dX1_add_42 : decode cX1_add 42 = .ok (.aload_n 0, 1) := by decide +kernel
theorem dX1_add_43 : decode cX1_add 43 = .ok (.getfield 18, 3) := by decide +kernel
theorem dX1_add_46 : decode cX1_add 46 = .ok (.aload_n 0, 1) := by decide +kernel
theorem dX1_add_47 : decode cX1_add 47 = .ok (.getfield 36, 3) := by decide +kernel
theorem dX1_add_50 : decode cX1_add 50 = .ok (.iload_n 3, 1) := by decide +kernel
theorem dX1_add_51 : decode cX1_add 51 = .ok (.invokestatic 44, 3) := by decide +kernel
theorem dX1_add_54 : decode cX1_add 54 = .ok (.aload_n 0, 1) := by decide +kernel
theorem dX1_add_55 : decode cX1_add 55 = .ok (.getfield 27, 3) := by decide +kernel
theorem dX1_add_58 : decode cX1_add 58 = .ok (.aload_n 0, 1) := by decide +kernel
theorem dX1_add_59 : decode cX1_add 59 = .ok (.getfield 36, 3) := by decide +kernel
theorem dX1_add_62 : decode cX1_add 62 = .ok (.iconst 0, 1) := by decide +kernel
theorem dX1_add_63 : decode cX1_add 63 = .ok (.invokestatic 44, 3) := by decide +kernel
theorem dX1_add_66 : decode cX1_add 66 = .ok (.aload_n 0, 1) := by decide +kernel
theorem dX1_add_67 : decode cX1_add 67 = .ok (.aload_n 0, 1) := by decide +kernel
theorem dX1_add_68 : decode cX1_add 68 = .ok (.getfield 36, 3) := by decide +kernel
theorem dX1_add_71 : decode cX1_add 71 = .ok (.invokevirtual 48, 3) := by decide +kernel
theorem dX1_add_74 : decode cX1_add 74 = .ok (.aload_n 0, 1) := by decide +kernel
theorem dX1_add_75 : decode cX1_add 75 = .ok (.dup, 1) := by decide +kernel
theorem dX1_add_76 : decode cX1_add 76 = .ok (.getfield 36, 3) := by decide +kernel
theorem dX1_add_79 : decode cX1_add 79 = .ok (.iconst 1, 1) := by decide +kernel
theorem dX1_add_80 : decode cX1_add 80 = .ok (.iadd, 1) := by decide +kernel
theorem dX1_add_81 : decode cX1_add 81 = .ok (.putfield 36, 3) := by decide +kernel
theorem dX1_add_84 : decode cX1_add 84 = .ok (.iconst 1, 1) := by decide +kernel
theorem dX1_add_85 : decode cX1_add 85 = .ok (.ireturn, 1) := by decide +kernel
theorem dX1_hasSong_0 : decode cX1_hasSong 0 = .ok (.aload_n 0, 1) := by decide +kernel
theorem dX1_hasSong_1 : decode cX1_hasSong 1 = .ok (.getfield 21, 3) := by decide +kernel
theorem dX1_hasSong_4 : decode cX1_hasSong 4 = .ok (.iload_n 1, 1) := by decide +kernel
theorem dX1_hasSong_5 : decode cX1_hasSong 5 = .ok (.invokestatic 52, 3) := by decide +kernel
theorem dX1_hasSong_8 : decode cX1_hasSong 8 = .ok (.bipush (-9), 2) := by decide +kernel
theorem dX1_hasSong_10 : decode cX1_hasSong 10 = .ok (.if_icmp .eq 7, 3) := by decide +kernel
theorem dX1_hasSong_13 : decode cX1_hasSong 13 = .ok (.iconst 1, 1) := by decide +kernel
theorem dX1_hasSong_14 : decode cX1_hasSong 14 = .ok (.goto 4, 3) := by decide +kernel
theorem dX1_hasSong_17 : decode cX1_hasSong 17 = .ok (.iconst 0, 1) := by decide +kernel
theorem dX1_hasSong_18 : decode cX1_hasSong 18 = .ok (.ireturn, 1) := by decide +kernel
theorem dX1_holders_0 : decode cX1_holders 0 = .ok (.iconst 0, 1) := by decide +kernel
theorem dX1_holders_1 : decode cX1_holders 1 = .ok (.istore_n 2, 1) := by decide +kernel
theorem dX1_holders_2 : decode cX1_holders 2 = .ok (.iconst 0, 1) := by decide +kernel
theorem dX1_holders_3 : decode cX1_holders 3 = .ok (.istore_n 3, 1) := by decide +kernel
theorem dX1_holders_4 : decode cX1_holders 4 = .ok (.iload_n 3, 1) := by decide +kernel
theorem dX1_holders_5 : decode cX1_holders 5 = .ok (.aload_n 0, 1) := by decide +kernel
theorem dX1_holders_6 : decode cX1_holders 6 = .ok (.getfield 36, 3) := by decide +kernel
theorem dX1_holders_9 : decode cX1_holders 9 = .ok (.if_icmp .ge 50, 3) := by decide +kernel
theorem dX1_holders_12 : decode cX1_holders 12 = .ok (.iload_n 2, 1) := by decide +kernel
theorem dX1_holders_13 : decode cX1_holders 13 = .ok (.iload_n 1, 1) := by decide +kernel
theorem dX1_holders_14 : decode cX1_holders 14 = .ok (.iconst (-1), 1) := by decide +kernel
theorem dX1_holders_15 : decode cX1_holders 15 = .ok (.if_icmp .ne 19, 3) := by decide +kernel
theorem dX1_holders_18 : decode cX1_holders 18 = .ok (.aload_n 0, 1) := by decide +kernel
theorem dX1_holders_19 : decode cX1_holders 19 = .ok (.iload_n 3, 1) := by decide +kernel
theorem dX1_holders_20 : decode cX1_holders 20 = .ok (.invokevirtual 56, 3) := by decide +kernel
theorem dX1_holders_23 : decode cX1_holders 23 = .ok (.ifCond .eq 7, 3) := by decide +kernel
theorem dX1_holders_26 : decode cX1_holders 26 = .ok (.iconst 1, 1) := by decide +kernel
theorem dX1_holders_27 : decode cX1_holders 27 = .ok (.goto 24, 3) := by decide +kernel
theorem dX1_holders_30 : decode cX1_holders 30 = .ok (.iconst 0, 1) := by decide +kernel
theorem dX1_holders_31 : decode cX1_holders 31 = .ok (.goto 20, 3) := by decide +kernel
theorem dX1_holders_34 : decode cX1_holders 34 = .ok (.aload_n 0, 1) := by decide +kernel
theorem dX1_holders_35 : decode cX1_holders 35 = .ok (.getfield 21, 3) := by decide +kernel
theorem dX1_holders_38 : decode cX1_holders 38 = .ok (.iload_n 3, 1) := by decide +kernel
theorem dX1_holders_39 : decode cX1_holders 39 = .ok (.invokestatic 52, 3) := by decide +kernel
theorem dX1_holders_42 : decode cX1_holders 42 = .ok (.iload_n 1, 1) := by decide +kernel
theorem dX1_holders_43 : decode cX1_holders 43 = .ok (.if_icmp .ne 7, 3) := by decide +kernel
theorem dX1_holders_46 : decode cX1_holders 46 = .ok (.iconst 1, 1) := by decide +kernel
theorem dX1_holders_47 : decode cX1_holders 47 = .ok (.goto 4, 3) := by decide +kernel
theorem dX1_holders_50 : decode cX1_holders 50 = .ok (.iconst 0, 1) := by decide +kernel
theorem dX1_holders_51 : decode cX1_holders 51 = .ok (.iadd, 1) := by decide +kernel
theorem dX1_holders_52 : decode cX1_holders 52 = .ok (.istore_n 2, 1) := by decide +kernel
theorem dX1_holders_53 : decode cX1_holders 53 = .ok (.iinc 3 1, 3) := by decide +kernel
theorem dX1_holders_56 : decode cX1_holders 56 = .ok (.goto (-52), 3) := by decide +kernel
theorem dX1_holders_59 : decode cX1_holders 59 = .ok (.iload_n 2, 1) := by decide +kernel
theorem dX1_holders_60 : decode cX1_holders 60 = .ok (.ireturn, 1) := by decide +kernel
theorem dX1_allStrength_0 : decode cX1_allStrength 0 = .ok (.iconst 0, 1) := by decide +kernel
theorem dX1_allStrength_1 : decode cX1_allStrength 1 = .ok (.istore_n 1, 1) := by decide +kernel
theorem dX1_allStrength_2 : decode cX1_allStrength 2 = .ok (.iconst 0, 1) := by decide +kernel
theorem dX1_allStrength_3 : decode cX1_allStrength 3 = .ok (.istore_n 2, 1) := by decide +kernel
theorem dX1_allStrength_4 : decode cX1_allStrength 4 = .ok (.iload_n 2, 1) := by decide +kernel
theorem dX1_allStrength_5 : decode cX1_allStrength 5 = .ok (.aload_n 0, 1) := by decide +kernel
theorem dX1_allStrength_6 : decode cX1_allStrength 6 = .ok (.getfield 36, 3) := by decide +kernel
theorem dX1_allStrength_9 : decode cX1_allStrength 9 = .ok (.if_icmp .ge 20, 3) := by decide +kernel
theorem dX1_allStrength_12 : decode cX1_allStrength 12 = .ok (.iload_n 1, 1) := by decide +kernel
theorem dX1_allStrength_13 : decode cX1_allStrength 13 = .ok (.aload_n 0, 1) := by decide +kernel
theorem dX1_allStrength_14 : decode cX1_allStrength 14 = .ok (.getfield 24, 3) := by decide +kernel
theorem dX1_allStrength_17 : decode cX1_allStrength 17 = .ok (.iload_n 2, 1) := by decide +kernel
theorem dX1_allStrength_18 : decode cX1_allStrength 18 = .ok (.invokestatic 52, 3) := by decide +kernel
theorem dX1_allStrength_21 : decode cX1_allStrength 21 = .ok (.iadd, 1) := by decide +kernel
theorem dX1_allStrength_22 : decode cX1_allStrength 22 = .ok (.istore_n 1, 1) := by decide +kernel
theorem dX1_allStrength_23 : decode cX1_allStrength 23 = .ok (.iinc 2 1, 3) := by decide +kernel
theorem dX1_allStrength_26 : decode cX1_allStrength 26 = .ok (.goto (-22), 3) := by decide +kernel
theorem dX1_allStrength_29 : decode cX1_allStrength 29 = .ok (.iload_n 1, 1) := by decide +kernel
theorem dX1_allStrength_30 : decode cX1_allStrength 30 = .ok (.ireturn, 1) := by decide +kernel
theorem dX1_bar_0 : decode cX1_bar 0 = .ok (.aload_n 0, 1) := by decide +kernel
theorem dX1_bar_1 : decode cX1_bar 1 = .ok (.getfield 9, 3) := by decide +kernel
theorem dX1_bar_4 : decode cX1_bar 4 = .ok (.iload_n 1, 1) := by decide +kernel
theorem dX1_bar_5 : decode cX1_bar 5 = .ok (.invokestatic 52, 3) := by decide +kernel
theorem dX1_bar_8 : decode cX1_bar 8 = .ok (.tableswitch 59 2 5 #[32, 35, 46, 57], 32) := by decide +kernel
theorem dX1_bar_40 : decode cX1_bar 40 = .ok (.bipush 99, 2) := by decide +kernel
theorem dX1_bar_42 : decode cX1_bar 42 = .ok (.ireturn, 1) := by decide +kernel
theorem dX1_bar_43 : decode cX1_bar 43 = .ok (.aload_n 0, 1) := by decide +kernel
theorem dX1_bar_44 : decode cX1_bar 44 = .ok (.getfield 18, 3) := by decide +kernel
theorem dX1_bar_47 : decode cX1_bar 47 = .ok (.iload_n 1, 1) := by decide +kernel
theorem dX1_bar_48 : decode cX1_bar 48 = .ok (.invokestatic 52, 3) := by decide +kernel
theorem dX1_bar_51 : decode cX1_bar 51 = .ok (.iconst 2, 1) := by decide +kernel
theorem dX1_bar_52 : decode cX1_bar 52 = .ok (.idiv, 1) := by decide +kernel
theorem dX1_bar_53 : decode cX1_bar 53 = .ok (.ireturn, 1) := by decide +kernel
theorem dX1_bar_54 : decode cX1_bar 54 = .ok (.aload_n 0, 1) := by decide +kernel
theorem dX1_bar_55 : decode cX1_bar 55 = .ok (.getfield 18, 3) := by decide +kernel
theorem dX1_bar_58 : decode cX1_bar 58 = .ok (.iload_n 1, 1) := by decide +kernel
theorem dX1_bar_59 : decode cX1_bar 59 = .ok (.invokestatic 52, 3) := by decide +kernel
theorem dX1_bar_62 : decode cX1_bar 62 = .ok (.iconst 3, 1) := by decide +kernel
theorem dX1_bar_63 : decode cX1_bar 63 = .ok (.iadd, 1) := by decide +kernel
theorem dX1_bar_64 : decode cX1_bar 64 = .ok (.ireturn, 1) := by decide +kernel
theorem dX1_bar_65 : decode cX1_bar 65 = .ok (.iconst 0, 1) := by decide +kernel
theorem dX1_bar_66 : decode cX1_bar 66 = .ok (.ireturn, 1) := by decide +kernel
theorem dX1_bar_67 : decode cX1_bar 67 = .ok (.aload_n 0, 1) := by decide +kernel
theorem dX1_bar_68 : decode cX1_bar 68 = .ok (.getfield 18, 3) := by decide +kernel
theorem dX1_bar_71 : decode cX1_bar 71 = .ok (.iload_n 1, 1) := by decide +kernel
theorem dX1_bar_72 : decode cX1_bar 72 = .ok (.invokestatic 52, 3) := by decide +kernel
theorem dX1_bar_75 : decode cX1_bar 75 = .ok (.ireturn, 1) := by decide +kernel
theorem dX1_hums_0 : decode cX1_hums 0 = .ok (.aload_n 0, 1) := by decide +kernel
theorem dX1_hums_1 : decode cX1_hums 1 = .ok (.getfield 9, 3) := by decide +kernel
theorem dX1_hums_4 : decode cX1_hums 4 = .ok (.iload_n 1, 1) := by decide +kernel
theorem dX1_hums_5 : decode cX1_hums 5 = .ok (.invokestatic 52, 3) := by decide +kernel
theorem dX1_hums_8 : decode cX1_hums 8 = .ok (.tableswitch 64 1 5 #[36, 64, 64, 62, 42], 36) := by decide +kernel
theorem dX1_hums_44 : decode cX1_hums 44 = .ok (.aload_n 0, 1) := by decide +kernel
theorem dX1_hums_45 : decode cX1_hums 45 = .ok (.iload_n 1, 1) := by decide +kernel
theorem dX1_hums_46 : decode cX1_hums 46 = .ok (.invokevirtual 56, 3) := by decide +kernel
theorem dX1_hums_49 : decode cX1_hums 49 = .ok (.ireturn, 1) := by decide +kernel
theorem dX1_hums_50 : decode cX1_hums 50 = .ok (.aload_n 0, 1) := by decide +kernel
theorem dX1_hums_51 : decode cX1_hums 51 = .ok (.iload_n 1, 1) := by decide +kernel
theorem dX1_hums_52 : decode cX1_hums 52 = .ok (.invokevirtual 56, 3) := by decide +kernel
theorem dX1_hums_55 : decode cX1_hums 55 = .ok (.ifCond .eq 13, 3) := by decide +kernel
theorem dX1_hums_58 : decode cX1_hums 58 = .ok (.iload_n 3, 1) := by decide +kernel
theorem dX1_hums_59 : decode cX1_hums 59 = .ok (.iconst 2, 1) := by decide +kernel
theorem dX1_hums_60 : decode cX1_hums 60 = .ok (.irem, 1) := by decide +kernel
theorem dX1_hums_61 : decode cX1_hums 61 = .ok (.ifCond .ne 7, 3) := by decide +kernel
theorem dX1_hums_64 : decode cX1_hums 64 = .ok (.iconst 1, 1) := by decide +kernel
theorem dX1_hums_65 : decode cX1_hums 65 = .ok (.goto 4, 3) := by decide +kernel
theorem dX1_hums_68 : decode cX1_hums 68 = .ok (.iconst 0, 1) := by decide +kernel
theorem dX1_hums_69 : decode cX1_hums 69 = .ok (.ireturn, 1) := by decide +kernel
theorem dX1_hums_70 : decode cX1_hums 70 = .ok (.iconst 0, 1) := by decide +kernel
theorem dX1_hums_71 : decode cX1_hums 71 = .ok (.ireturn, 1) := by decide +kernel
theorem dX1_hums_72 : decode cX1_hums 72 = .ok (.aload_n 0, 1) := by decide +kernel
theorem dX1_hums_73 : decode cX1_hums 73 = .ok (.getfield 24, 3) := by decide +kernel
theorem dX1_hums_76 : decode cX1_hums 76 = .ok (.iload_n 1, 1) := by decide +kernel
theorem dX1_hums_77 : decode cX1_hums 77 = .ok (.invokestatic 52, 3) := by decide +kernel
theorem dX1_hums_80 : decode cX1_hums 80 = .ok (.iload_n 2, 1) := by decide +kernel
theorem dX1_hums_81 : decode cX1_hums 81 = .ok (.if_icmp .lt 7, 3) := by decide +kernel
theorem dX1_hums_84 : decode cX1_hums 84 = .ok (.iconst 1, 1) := by decide +kernel
theorem dX1_hums_85 : decode cX1_hums 85 = .ok (.goto 4, 3) := by decide +kernel
theorem dX1_hums_88 : decode cX1_hums 88 = .ok (.iconst 0, 1) := by decide +kernel
theorem dX1_hums_89 : decode cX1_hums 89 = .ok (.ireturn, 1) := by decide +kernel
theorem dX1_receive_0 : decode cX1_receive 0 = .ok (.aload_n 0, 1) := by decide +kernel
theorem dX1_receive_1 : decode cX1_receive 1 = .ok (.getfield 21, 3) := by decide +kernel
theorem dX1_receive_4 : decode cX1_receive 4 = .ok (.iload_n 1, 1) := by decide +kernel
theorem dX1_receive_5 : decode cX1_receive 5 = .ok (.iload_n 2, 1) := by decide +kernel
theorem dX1_receive_6 : decode cX1_receive 6 = .ok (.invokestatic 44, 3) := by decide +kernel
theorem dX1_receive_9 : decode cX1_receive 9 = .ok (.aload_n 0, 1) := by decide +kernel
theorem dX1_receive_10 : decode cX1_receive 10 = .ok (.getfield 24, 3) := by decide +kernel
theorem dX1_receive_13 : decode cX1_receive 13 = .ok (.iload_n 1, 1) := by decide +kernel
theorem dX1_receive_14 : decode cX1_receive 14 = .ok (.iload_n 3, 1) := by decide +kernel
theorem dX1_receive_15 : decode cX1_receive 15 = .ok (.invokestatic 44, 3) := by decide +kernel
theorem dX1_receive_18 : decode cX1_receive 18 = .ok (.aload_n 0, 1) := by decide +kernel
theorem dX1_receive_19 : decode cX1_receive 19 = .ok (.getfield 30, 3) := by decide +kernel
theorem dX1_receive_22 : decode cX1_receive 22 = .ok (.iload_n 1, 1) := by decide +kernel
theorem dX1_receive_23 : decode cX1_receive 23 = .ok (.iload 4, 2) := by decide +kernel
theorem dX1_receive_25 : decode cX1_receive 25 = .ok (.invokestatic 44, 3) := by decide +kernel
theorem dX1_receive_28 : decode cX1_receive 28 = .ok (.aload_n 0, 1) := by decide +kernel
theorem dX1_receive_29 : decode cX1_receive 29 = .ok (.getfield 33, 3) := by decide +kernel
theorem dX1_receive_32 : decode cX1_receive 32 = .ok (.iload_n 1, 1) := by decide +kernel
theorem dX1_receive_33 : decode cX1_receive 33 = .ok (.iload 5, 2) := by decide +kernel
theorem dX1_receive_35 : decode cX1_receive 35 = .ok (.invokestatic 44, 3) := by decide +kernel
theorem dX1_receive_38 : decode cX1_receive 38 = .ok (.return_, 1) := by decide +kernel
theorem dX1_lose_0 : decode cX1_lose 0 = .ok (.aload_n 0, 1) := by decide +kernel
theorem dX1_lose_1 : decode cX1_lose 1 = .ok (.getfield 21, 3) := by decide +kernel
theorem dX1_lose_4 : decode cX1_lose 4 = .ok (.iload_n 1, 1) := by decide +kernel
theorem dX1_lose_5 : decode cX1_lose 5 = .ok (.bipush (-9), 2) := by decide +kernel
theorem dX1_lose_7 : decode cX1_lose 7 = .ok (.invokestatic 44, 3) := by decide +kernel
theorem dX1_lose_10 : decode cX1_lose 10 = .ok (.aload_n 0, 1) := by decide +kernel
theorem dX1_lose_11 : decode cX1_lose 11 = .ok (.getfield 24, 3) := by decide +kernel
theorem dX1_lose_14 : decode cX1_lose 14 = .ok (.iload_n 1, 1) := by decide +kernel
theorem dX1_lose_15 : decode cX1_lose 15 = .ok (.iconst 0, 1) := by decide +kernel
theorem dX1_lose_16 : decode cX1_lose 16 = .ok (.invokestatic 44, 3) := by decide +kernel
theorem dX1_lose_19 : decode cX1_lose 19 = .ok (.aload_n 0, 1) := by decide +kernel
theorem dX1_lose_20 : decode cX1_lose 20 = .ok (.getfield 30, 3) := by decide +kernel
theorem dX1_lose_23 : decode cX1_lose 23 = .ok (.iload_n 1, 1) := by decide +kernel
theorem dX1_lose_24 : decode cX1_lose 24 = .ok (.bipush (-9), 2) := by decide +kernel
theorem dX1_lose_26 : decode cX1_lose 26 = .ok (.invokestatic 44, 3) := by decide +kernel
theorem dX1_lose_29 : decode cX1_lose 29 = .ok (.aload_n 0, 1) := by decide +kernel
theorem dX1_lose_30 : decode cX1_lose 30 = .ok (.getfield 33, 3) := by decide +kernel
theorem dX1_lose_33 : decode cX1_lose 33 = .ok (.iload_n 1, 1) := by decide +kernel
theorem dX1_lose_34 : decode cX1_lose 34 = .ok (.bipush (-9), 2) := by decide +kernel
theorem dX1_lose_36 : decode cX1_lose 36 = .ok (.invokestatic 44, 3) := by decide +kernel
theorem dX1_lose_39 : decode cX1_lose 39 = .ok (.return_, 1) := by decide +kernel
theorem dX1_weaken_0 : decode cX1_weaken 0 = .ok (.bipush 60, 2) := by decide +kernel
theorem dX1_weaken_2 : decode cX1_weaken 2 = .ok (.aload_n 0, 1) := by decide +kernel
theorem dX1_weaken_3 : decode cX1_weaken 3 = .ok (.getfield 24, 3) := by decide +kernel
theorem dX1_weaken_6 : decode cX1_weaken 6 = .ok (.iload_n 1, 1) := by decide +kernel
theorem dX1_weaken_7 : decode cX1_weaken 7 = .ok (.invokestatic 52, 3) := by decide +kernel
theorem dX1_weaken_10 : decode cX1_weaken 10 = .ok (.iload_n 2, 1) := by decide +kernel
theorem dX1_weaken_11 : decode cX1_weaken 11 = .ok (.isub, 1) := by decide +kernel
theorem dX1_weaken_12 : decode cX1_weaken 12 = .ok (.invokestatic 59, 3) := by decide +kernel
theorem dX1_weaken_15 : decode cX1_weaken 15 = .ok (.istore_n 3, 1) := by decide +kernel
theorem dX1_weaken_16 : decode cX1_weaken 16 = .ok (.iload_n 3, 1) := by decide +kernel
theorem dX1_weaken_17 : decode cX1_weaken 17 = .ok (.ifCond .le 15, 3) := by decide +kernel
theorem dX1_weaken_20 : decode cX1_weaken 20 = .ok (.aload_n 0, 1) := by decide +kernel
theorem dX1_weaken_21 : decode cX1_weaken 21 = .ok (.getfield 24, 3) := by decide +kernel
theorem dX1_weaken_24 : decode cX1_weaken 24 = .ok (.iload_n 1, 1) := by decide +kernel
theorem dX1_weaken_25 : decode cX1_weaken 25 = .ok (.iload_n 3, 1) := by decide +kernel
theorem dX1_weaken_26 : decode cX1_weaken 26 = .ok (.invokestatic 44, 3) := by decide +kernel
theorem dX1_weaken_29 : decode cX1_weaken 29 = .ok (.goto 8, 3) := by decide +kernel
theorem dX1_weaken_32 : decode cX1_weaken 32 = .ok (.aload_n 0, 1) := by decide +kernel
theorem dX1_weaken_33 : decode cX1_weaken 33 = .ok (.iload_n 1, 1) := by decide +kernel
theorem dX1_weaken_34 : decode cX1_weaken 34 = .ok (.invokevirtual 48, 3) := by decide +kernel
theorem dX1_weaken_37 : decode cX1_weaken 37 = .ok (.return_, 1) := by decide +kernel
theorem dX1_chew_0 : decode cX1_chew 0 = .ok (.aload_n 0, 1) := by decide +kernel
theorem dX1_chew_1 : decode cX1_chew 1 = .ok (.getfield 27, 3) := by decide +kernel
theorem dX1_chew_4 : decode cX1_chew 4 = .ok (.iload_n 1, 1) := by decide +kernel
theorem dX1_chew_5 : decode cX1_chew 5 = .ok (.iconst 0, 1) := by decide +kernel
theorem dX1_chew_6 : decode cX1_chew 6 = .ok (.aload_n 0, 1) := by decide +kernel
theorem dX1_chew_7 : decode cX1_chew 7 = .ok (.getfield 27, 3) := by decide +kernel
theorem dX1_chew_10 : decode cX1_chew 10 = .ok (.iload_n 1, 1) := by decide +kernel
theorem dX1_chew_11 : decode cX1_chew 11 = .ok (.invokestatic 52, 3) := by decide +kernel
theorem dX1_chew_14 : decode cX1_chew 14 = .ok (.iconst 1, 1) := by decide +kernel
theorem dX1_chew_15 : decode cX1_chew 15 = .ok (.isub, 1) := by decide +kernel
theorem dX1_chew_16 : decode cX1_chew 16 = .ok (.invokestatic 65, 3) := by decide +kernel
theorem dX1_chew_19 : decode cX1_chew 19 = .ok (.invokestatic 44, 3) := by decide +kernel
theorem dX1_chew_22 : decode cX1_chew 22 = .ok (.return_, 1) := by decide +kernel
theorem dX1_treat_0 : decode cX1_treat 0 = .ok (.iload_n 2, 1) := by decide +kernel
theorem dX1_treat_1 : decode cX1_treat 1 = .ok (.tableswitch 75 0 2 #[27, 54, 63], 27) := by decide +kernel
theorem dX1_treat_28 : decode cX1_treat 28 = .ok (.aload_n 0, 1) := by decide +kernel
theorem dX1_treat_29 : decode cX1_treat 29 = .ok (.iload_n 1, 1) := by decide +kernel
theorem dX1_treat_30 : decode cX1_treat 30 = .ok (.aload_n 0, 1) := by decide +kernel
theorem dX1_treat_31 : decode cX1_treat 31 = .ok (.getfield 24, 3) := by decide +kernel
theorem dX1_treat_34 : decode cX1_treat 34 = .ok (.iload_n 1, 1) := by decide +kernel
theorem dX1_treat_35 : decode cX1_treat 35 = .ok (.invokestatic 52, 3) := by decide +kernel
theorem dX1_treat_38 : decode cX1_treat 38 = .ok (.aload_n 0, 1) := by decide +kernel
theorem dX1_treat_39 : decode cX1_treat 39 = .ok (.getfield 24, 3) := by decide +kernel
theorem dX1_treat_42 : decode cX1_treat 42 = .ok (.iload_n 1, 1) := by decide +kernel
theorem dX1_treat_43 : decode cX1_treat 43 = .ok (.invokestatic 52, 3) := by decide +kernel
theorem dX1_treat_46 : decode cX1_treat 46 = .ok (.iconst 2, 1) := by decide +kernel
theorem dX1_treat_47 : decode cX1_treat 47 = .ok (.idiv, 1) := by decide +kernel
theorem dX1_treat_48 : decode cX1_treat 48 = .ok (.isub, 1) := by decide +kernel
theorem dX1_treat_49 : decode cX1_treat 49 = .ok (.invokevirtual 68, 3) := by decide +kernel
theorem dX1_treat_52 : decode cX1_treat 52 = .ok (.goto 24, 3) := by decide +kernel
theorem dX1_treat_55 : decode cX1_treat 55 = .ok (.aload_n 0, 1) := by decide +kernel
theorem dX1_treat_56 : decode cX1_treat 56 = .ok (.iload_n 1, 1) := by decide +kernel
theorem dX1_treat_57 : decode cX1_treat 57 = .ok (.iconst 4, 1) := by decide +kernel
theorem dX1_treat_58 : decode cX1_treat 58 = .ok (.invokevirtual 68, 3) := by decide +kernel
theorem dX1_treat_61 : decode cX1_treat 61 = .ok (.goto 15, 3) := by decide +kernel
theorem dX1_treat_64 : decode cX1_treat 64 = .ok (.aload_n 0, 1) := by decide +kernel
theorem dX1_treat_65 : decode cX1_treat 65 = .ok (.getfield 27, 3) := by decide +kernel
theorem dX1_treat_68 : decode cX1_treat 68 = .ok (.iload_n 1, 1) := by decide +kernel
theorem dX1_treat_69 : decode cX1_treat 69 = .ok (.iconst 3, 1) := by decide +kernel
theorem dX1_treat_70 : decode cX1_treat 70 = .ok (.invokestatic 44, 3) := by decide +kernel
theorem dX1_treat_73 : decode cX1_treat 73 = .ok (.goto 3, 3) := by decide +kernel
theorem dX1_treat_76 : decode cX1_treat 76 = .ok (.return_, 1) := by decide +kernel
theorem dX1_changePlaces_0 : decode cX1_changePlaces 0 = .ok (.aload_n 0, 1) := by decide +kernel
theorem dX1_changePlaces_1 : decode cX1_changePlaces 1 = .ok (.getfield 15, 3) := by decide +kernel
theorem dX1_changePlaces_4 : decode cX1_changePlaces 4 = .ok (.iload_n 1, 1) := by decide +kernel
theorem dX1_changePlaces_5 : decode cX1_changePlaces 5 = .ok (.invokestatic 52, 3) := by decide +kernel
theorem dX1_changePlaces_8 : decode cX1_changePlaces 8 = .ok (.istore_n 3, 1) := by decide +kernel
theorem dX1_changePlaces_9 : decode cX1_changePlaces 9 = .ok (.aload_n 0, 1) := by decide +kernel
theorem dX1_changePlaces_10 : decode cX1_changePlaces 10 = .ok (.getfield 15, 3) := by decide +kernel
theorem dX1_changePlaces_13 : decode cX1_changePlaces 13 = .ok (.iload_n 1, 1) := by decide +kernel
theorem dX1_changePlaces_14 : decode cX1_changePlaces 14 = .ok (.aload_n 0, 1) := by decide +kernel
theorem dX1_changePlaces_15 : decode cX1_changePlaces 15 = .ok (.getfield 15, 3) := by decide +kernel
theorem dX1_changePlaces_18 : decode cX1_changePlaces 18 = .ok (.iload_n 2, 1) := by decide +kernel
theorem dX1_changePlaces_19 : decode cX1_changePlaces 19 = .ok (.invokestatic 52, 3) := by decide +kernel
theorem dX1_changePlaces_22 : decode cX1_changePlaces 22 = .ok (.invokestatic 44, 3) := by decide +kernel
theorem dX1_changePlaces_25 : decode cX1_changePlaces 25 = .ok (.aload_n 0, 1) := by decide +kernel
theorem dX1_changePlaces_26 : decode cX1_changePlaces 26 = .ok (.getfield 15, 3) := by decide +kernel
theorem dX1_changePlaces_29 : decode cX1_changePlaces 29 = .ok (.iload_n 2, 1) := by decide +kernel
theorem dX1_changePlaces_30 : decode cX1_changePlaces 30 = .ok (.iload_n 3, 1) := by decide +kernel
theorem dX1_changePlaces_31 : decode cX1_changePlaces 31 = .ok (.invokestatic 44, 3) := by decide +kernel
theorem dX1_changePlaces_34 : decode cX1_changePlaces 34 = .ok (.return_, 1) := by decide +kernel
theorem dX1_takeAs_0 : decode cX1_takeAs 0 = .ok (.aload_n 1, 1) := by decide +kernel
theorem dX1_takeAs_1 : decode cX1_takeAs 1 = .ok (.getfield 9, 3) := by decide +kernel
theorem dX1_takeAs_4 : decode cX1_takeAs 4 = .ok (.aload_n 0, 1) := by decide +kernel
theorem dX1_takeAs_5 : decode cX1_takeAs 5 = .ok (.getfield 9, 3) := by decide +kernel
theorem dX1_takeAs_8 : decode cX1_takeAs 8 = .ok (.invokestatic 72, 3) := by decide +kernel
theorem dX1_takeAs_11 : decode cX1_takeAs 11 = .ok (.aload_n 1, 1) := by decide +kernel
theorem dX1_takeAs_12 : decode cX1_takeAs 12 = .ok (.getfield 15, 3) := by decide +kernel
theorem dX1_takeAs_15 : decode cX1_takeAs 15 = .ok (.aload_n 0, 1) := by decide +kernel
theorem dX1_takeAs_16 : decode cX1_takeAs 16 = .ok (.getfield 15, 3) := by decide +kernel
theorem dX1_takeAs_19 : decode cX1_takeAs 19 = .ok (.invokestatic 72, 3) := by decide +kernel
theorem dX1_takeAs_22 : decode cX1_takeAs 22 = .ok (.aload_n 1, 1) := by decide +kernel
theorem dX1_takeAs_23 : decode cX1_takeAs 23 = .ok (.getfield 18, 3) := by decide +kernel
theorem dX1_takeAs_26 : decode cX1_takeAs 26 = .ok (.aload_n 0, 1) := by decide +kernel
theorem dX1_takeAs_27 : decode cX1_takeAs 27 = .ok (.getfield 18, 3) := by decide +kernel
theorem dX1_takeAs_30 : decode cX1_takeAs 30 = .ok (.invokestatic 72, 3) := by decide +kernel
theorem dX1_takeAs_33 : decode cX1_takeAs 33 = .ok (.aload_n 1, 1) := by decide +kernel
theorem dX1_takeAs_34 : decode cX1_takeAs 34 = .ok (.getfield 21, 3) := by decide +kernel
theorem dX1_takeAs_37 : decode cX1_takeAs 37 = .ok (.aload_n 0, 1) := by decide +kernel
theorem dX1_takeAs_38 : decode cX1_takeAs 38 = .ok (.getfield 21, 3) := by decide +kernel
theorem dX1_takeAs_41 : decode cX1_takeAs 41 = .ok (.invokestatic 72, 3) := by decide +kernel
theorem dX1_takeAs_44 : decode cX1_takeAs 44 = .ok (.aload_n 1, 1) := by decide +kernel
theorem dX1_takeAs_45 : decode cX1_takeAs 45 = .ok (.getfield 24, 3) := by decide +kernel
theorem dX1_takeAs_48 : decode cX1_takeAs 48 = .ok (.aload_n 0, 1) := by decide +kernel
theorem dX1_takeAs_49 : decode cX1_takeAs 49 = .ok (.getfield 24, 3) := by decide +kernel
theorem dX1_takeAs_52 : decode cX1_takeAs 52 = .ok (.invokestatic 72, 3) := by decide +kernel
theorem dX1_takeAs_55 : decode cX1_takeAs 55 = .ok (.aload_n 1, 1) := by decide +kernel
theorem dX1_takeAs_56 : decode cX1_takeAs 56 = .ok (.getfield 27, 3) := by decide +kernel
theorem dX1_takeAs_59 : decode cX1_takeAs 59 = .ok (.aload_n 0, 1) := by decide +kernel
theorem dX1_takeAs_60 : decode cX1_takeAs 60 = .ok (.getfield 27, 3) := by decide +kernel
theorem dX1_takeAs_63 : decode cX1_takeAs 63 = .ok (.invokestatic 72, 3) := by decide +kernel
theorem dX1_takeAs_66 : decode cX1_takeAs 66 = .ok (.aload_n 0, 1) := by decide +kernel
theorem dX1_takeAs_67 : decode cX1_takeAs 67 = .ok (.aload_n 1, 1) := by decide +kernel
theorem dX1_takeAs_68 : decode cX1_takeAs 68 = .ok (.getfield 36, 3) := by decide +kernel
theorem dX1_takeAs_71 : decode cX1_takeAs 71 = .ok (.putfield 36, 3) := by decide +kernel
theorem dX1_takeAs_74 : decode cX1_takeAs 74 = .ok (.iconst 0, 1) := by decide +kernel
theorem dX1_takeAs_75 : decode cX1_takeAs 75 = .ok (.istore_n 2, 1) := by decide +kernel
theorem dX1_takeAs_76 : decode cX1_takeAs 76 = .ok (.iload_n 2, 1) := by decide +kernel
theorem dX1_takeAs_77 : decode cX1_takeAs 77 = .ok (.aload_n 0, 1) := by decide +kernel
theorem dX1_takeAs_78 : decode cX1_takeAs 78 = .ok (.getfield 36, 3) := by decide +kernel
theorem dX1_takeAs_81 : decode cX1_takeAs 81 = .ok (.if_icmp .ge 53, 3) := by decide +kernel
theorem dX1_takeAs_84 : decode cX1_takeAs 84 = .ok (.aload_n 0, 1) := by decide +kernel
theorem dX1_takeAs_85 : decode cX1_takeAs 85 = .ok (.getfield 30, 3) := by decide +kernel
theorem dX1_takeAs_88 : decode cX1_takeAs 88 = .ok (.iload_n 2, 1) := by decide +kernel
theorem dX1_takeAs_89 : decode cX1_takeAs 89 = .ok (.aload_n 0, 1) := by decide +kernel
theorem dX1_takeAs_90 : decode cX1_takeAs 90 = .ok (.iload_n 2, 1) := by decide +kernel
theorem dX1_takeAs_91 : decode cX1_takeAs 91 = .ok (.invokevirtual 56, 3) := by decide +kernel
theorem dX1_takeAs_94 : decode cX1_takeAs 94 = .ok (.ifCond .eq 7, 3) := by decide +kernel
theorem dX1_takeAs_97 : decode cX1_takeAs 97 = .ok (.iload_n 2, 1) := by decide +kernel
theorem dX1_takeAs_98 : decode cX1_takeAs 98 = .ok (.goto 5, 3) := by decide +kernel
theorem dX1_takeAs_101 : decode cX1_takeAs 101 = .ok (.bipush (-9), 2) := by decide +kernel
theorem dX1_takeAs_103 : decode cX1_takeAs 103 = .ok (.invokestatic 44, 3) := by decide +kernel
theorem dX1_takeAs_106 : decode cX1_takeAs 106 = .ok (.aload_n 0, 1) := by decide +kernel
theorem dX1_takeAs_107 : decode cX1_takeAs 107 = .ok (.getfield 33, 3) := by decide +kernel
theorem dX1_takeAs_110 : decode cX1_takeAs 110 = .ok (.iload_n 2, 1) := by decide +kernel
theorem dX1_takeAs_111 : decode cX1_takeAs 111 = .ok (.aload_n 0, 1) := by decide +kernel
theorem dX1_takeAs_112 : decode cX1_takeAs 112 = .ok (.iload_n 2, 1) := by decide +kernel
theorem dX1_takeAs_113 : decode cX1_takeAs 113 = .ok (.invokevirtual 56, 3) := by decide +kernel
theorem dX1_takeAs_116 : decode cX1_takeAs 116 = .ok (.ifCond .eq 7, 3) := by decide +kernel
theorem dX1_takeAs_119 : decode cX1_takeAs 119 = .ok (.iload_n 2, 1) := by decide +kernel
theorem dX1_takeAs_120 : decode cX1_takeAs 120 = .ok (.goto 5, 3) := by decide +kernel
theorem dX1_takeAs_123 : decode cX1_takeAs 123 = .ok (.bipush (-9), 2) := by decide +kernel
theorem dX1_takeAs_125 : decode cX1_takeAs 125 = .ok (.invokestatic 44, 3) := by decide +kernel
theorem dX1_takeAs_128 : decode cX1_takeAs 128 = .ok (.iinc 2 1, 3) := by decide +kernel
theorem dX1_takeAs_131 : decode cX1_takeAs 131 = .ok (.goto (-55), 3) := by decide +kernel
theorem dX1_takeAs_134 : decode cX1_takeAs 134 = .ok (.return_, 1) := by decide +kernel
theorem dX2_init_0 : decode cX2_init 0 = .ok (.aload_n 0, 1) := by decide +kernel
theorem dX2_init_1 : decode cX2_init 1 = .ok (.invokespecial 3, 3) := by decide +kernel
theorem dX2_init_4 : decode cX2_init 4 = .ok (.aload_n 0, 1) := by decide +kernel
theorem dX2_init_5 : decode cX2_init 5 = .ok (.new 9, 3) := by decide +kernel
theorem dX2_init_8 : decode cX2_init 8 = .ok (.dup, 1) := by decide +kernel
theorem dX2_init_9 : decode cX2_init 9 = .ok (.invokespecial 11, 3) := by decide +kernel
theorem dX2_init_12 : decode cX2_init 12 = .ok (.putfield 12, 3) := by decide +kernel
theorem dX2_init_15 : decode cX2_init 15 = .ok (.aload_n 0, 1) := by decide +kernel
theorem dX2_init_16 : decode cX2_init 16 = .ok (.new 18, 3) := by decide +kernel
theorem dX2_init_19 : decode cX2_init 19 = .ok (.dup, 1) := by decide +kernel
theorem dX2_init_20 : decode cX2_init 20 = .ok (.invokespecial 20, 3) := by decide +kernel
theorem dX2_init_23 : decode cX2_init 23 = .ok (.putfield 21, 3) := by decide +kernel
theorem dX2_init_26 : decode cX2_init 26 = .ok (.aload_n 0, 1) := by decide +kernel
theorem dX2_init_27 : decode cX2_init 27 = .ok (.new 25, 3) := by decide +kernel
theorem dX2_init_30 : decode cX2_init 30 = .ok (.dup, 1) := by decide +kernel
theorem dX2_init_31 : decode cX2_init 31 = .ok (.invokespecial 27, 3) := by decide +kernel
theorem dX2_init_34 : decode cX2_init 34 = .ok (.putfield 28, 3) := by decide +kernel
theorem dX2_init_37 : decode cX2_init 37 = .ok (.aload_n 0, 1) := by decide +kernel
theorem dX2_init_38 : decode cX2_init 38 = .ok (.iconst 0, 1) := by decide +kernel
theorem dX2_init_39 : decode cX2_init 39 = .ok (.putfield 32, 3) := by decide +kernel
theorem dX2_init_42 : decode cX2_init 42 = .ok (.aload_n 0, 1) := by decide +kernel
theorem dX2_init_43 : decode cX2_init 43 = .ok (.bipush 6, 2) := by decide +kernel
theorem dX2_init_45 : decode cX2_init 45 = .ok (.putfield 36, 3) := by decide +kernel
theorem dX2_init_48 : decode cX2_init 48 = .ok (.aload_n 0, 1) := by decide +kernel
theorem dX2_init_49 : decode cX2_init 49 = .ok (.bipush 6, 2) := by decide +kernel
theorem dX2_init_51 : decode cX2_init 51 = .ok (.newarray .int, 2) := by decide +kernel
theorem dX2_init_53 : decode cX2_init 53 = .ok (.putfield 39, 3) := by decide +kernel
theorem dX2_init_56 : decode cX2_init 56 = .ok (.aload_n 0, 1) := by decide +kernel
theorem dX2_init_57 : decode cX2_init 57 = .ok (.bipush 6, 2) := by decide +kernel
theorem dX2_init_59 : decode cX2_init 59 = .ok (.newarray .int, 2) := by decide +kernel
theorem dX2_init_61 : decode cX2_init 61 = .ok (.putfield 43, 3) := by decide +kernel
theorem dX2_init_64 : decode cX2_init 64 = .ok (.aload_n 0, 1) := by decide +kernel
theorem dX2_init_65 : decode cX2_init 65 = .ok (.bipush 6, 2) := by decide +kernel
theorem dX2_init_67 : decode cX2_init 67 = .ok (.newarray .int, 2) := by decide +kernel
theorem dX2_init_69 : decode cX2_init 69 = .ok (.putfield 46, 3) := by decide +kernel
theorem dX2_init_72 : decode cX2_init 72 = .ok (.aload_n 0, 1) := by decide +kernel
theorem dX2_init_73 : decode cX2_init 73 = .ok (.bipush 6, 2) := by decide +kernel
theorem dX2_init_75 : decode cX2_init 75 = .ok (.newarray .int, 2) := by decide +kernel
theorem dX2_init_77 : decode cX2_init 77 = .ok (.putfield 49, 3) := by decide +kernel
theorem dX2_init_80 : decode cX2_init 80 = .ok (.aload_n 0, 1) := by decide +kernel
theorem dX2_init_81 : decode cX2_init 81 = .ok (.bipush 6, 2) := by decide +kernel
theorem dX2_init_83 : decode cX2_init 83 = .ok (.newarray .int, 2) := by decide +kernel
theorem dX2_init_85 : decode cX2_init 85 = .ok (.putfield 52, 3) := by decide +kernel
theorem dX2_init_88 : decode cX2_init 88 = .ok (.return_, 1) := by decide +kernel
theorem dX2_takeAs_0 : decode cX2_takeAs 0 = .ok (.aload_n 0, 1) := by decide +kernel
theorem dX2_takeAs_1 : decode cX2_takeAs 1 = .ok (.getfield 12, 3) := by decide +kernel
theorem dX2_takeAs_4 : decode cX2_takeAs 4 = .ok (.aload_n 1, 1) := by decide +kernel
theorem dX2_takeAs_5 : decode cX2_takeAs 5 = .ok (.getfield 12, 3) := by decide +kernel
theorem dX2_takeAs_8 : decode cX2_takeAs 8 = .ok (.invokevirtual 55, 3) := by decide +kernel
theorem dX2_takeAs_11 : decode cX2_takeAs 11 = .ok (.aload_n 0, 1) := by decide +kernel
theorem dX2_takeAs_12 : decode cX2_takeAs 12 = .ok (.getfield 21, 3) := by decide +kernel
theorem dX2_takeAs_15 : decode cX2_takeAs 15 = .ok (.aload_n 1, 1) := by decide +kernel
theorem dX2_takeAs_16 : decode cX2_takeAs 16 = .ok (.getfield 21, 3) := by decide +kernel
theorem dX2_takeAs_19 : decode cX2_takeAs 19 = .ok (.invokevirtual 59, 3) := by decide +kernel
theorem dX2_takeAs_22 : decode cX2_takeAs 22 = .ok (.aload_n 0, 1) := by decide +kernel
theorem dX2_takeAs_23 : decode cX2_takeAs 23 = .ok (.getfield 28, 3) := by decide +kernel
theorem dX2_takeAs_26 : decode cX2_takeAs 26 = .ok (.aload_n 1, 1) := by decide +kernel
theorem dX2_takeAs_27 : decode cX2_takeAs 27 = .ok (.getfield 28, 3) := by decide +kernel
theorem dX2_takeAs_30 : decode cX2_takeAs 30 = .ok (.invokevirtual 62, 3) := by decide +kernel
theorem dX2_takeAs_33 : decode cX2_takeAs 33 = .ok (.aload_n 0, 1) := by decide +kernel
theorem dX2_takeAs_34 : decode cX2_takeAs 34 = .ok (.aload_n 1, 1) := by decide +kernel
theorem dX2_takeAs_35 : decode cX2_takeAs 35 = .ok (.getfield 32, 3) := by decide +kernel
theorem dX2_takeAs_38 : decode cX2_takeAs 38 = .ok (.putfield 32, 3) := by decide +kernel
theorem dX2_takeAs_41 : decode cX2_takeAs 41 = .ok (.aload_n 0, 1) := by decide +kernel
theorem dX2_takeAs_42 : decode cX2_takeAs 42 = .ok (.aload_n 1, 1) := by decide +kernel
theorem dX2_takeAs_43 : decode cX2_takeAs 43 = .ok (.getfield 36, 3) := by decide +kernel
theorem dX2_takeAs_46 : decode cX2_takeAs 46 = .ok (.putfield 36, 3) := by decide +kernel
theorem dX2_takeAs_49 : decode cX2_takeAs 49 = .ok (.return_, 1) := by decide +kernel
theorem dX2_nearBits_0 : decode cX2_nearBits 0 = .ok (.aload_n 0, 1) := by decide +kernel
theorem dX2_nearBits_1 : decode cX2_nearBits 1 = .ok (.getfield 12, 3) := by decide +kernel
theorem dX2_nearBits_4 : decode cX2_nearBits 4 = .ok (.aload_n 0, 1) := by decide +kernel
theorem dX2_nearBits_5 : decode cX2_nearBits 5 = .ok (.getfield 28, 3) := by decide +kernel
theorem dX2_nearBits_8 : decode cX2_nearBits 8 = .ok (.getfield 65, 3) := by decide +kernel
theorem dX2_nearBits_11 : decode cX2_nearBits 11 = .ok (.iload_n 1, 1) := by decide +kernel
theorem dX2_nearBits_12 : decode cX2_nearBits 12 = .ok (.invokestatic 68, 3) := by decide +kernel
theorem dX2_nearBits_15 : decode cX2_nearBits 15 = .ok (.invokevirtual 72, 3) := by decide +kernel
theorem dX2_nearBits_18 : decode cX2_nearBits 18 = .ok (.istore_n 2, 1) := by decide +kernel
theorem dX2_nearBits_19 : decode cX2_nearBits 19 = .ok (.iconst 0, 1) := by decide +kernel
theorem dX2_nearBits_20 : decode cX2_nearBits 20 = .ok (.istore_n 3, 1) := by decide +kernel
theorem dX2_nearBits_21 : decode cX2_nearBits 21 = .ok (.iconst 0, 1) := by decide +kernel
theorem dX2_nearBits_22 : decode cX2_nearBits 22 = .ok (.istore 4, 2) := by decide +kernel
theorem dX2_nearBits_24 : decode cX2_nearBits 24 = .ok (.iload 4, 2) := by decide +kernel
theorem dX2_nearBits_26 : decode cX2_nearBits 26 = .ok (.aload_n 0, 1) := by decide +kernel
theorem dX2_nearBits_27 : decode cX2_nearBits 27 = .ok (.getfield 28, 3) := by decide +kernel
theorem dX2_nearBits_30 : decode cX2_nearBits 30 = .ok (.getfield 76, 3) := by decide +kernel
theorem dX2_nearBits_33 : decode cX2_nearBits 33 = .ok (.if_icmp .ge 42, 3) := by decide +kernel
theorem dX2_nearBits_36 : decode cX2_nearBits 36 = .ok (.iload 4, 2) := by decide +kernel
theorem dX2_nearBits_38 : decode cX2_nearBits 38 = .ok (.iload_n 1, 1) := by decide +kernel
theorem dX2_nearBits_39 : decode cX2_nearBits 39 = .ok (.if_icmp .eq 30, 3) := by decide +kernel
theorem dX2_nearBits_42 : decode cX2_nearBits 42 = .ok (.iload_n 2, 1) := by decide +kernel
theorem dX2_nearBits_43 : decode cX2_nearBits 43 = .ok (.aload_n 0, 1) := by decide +kernel
theorem dX2_nearBits_44 : decode cX2_nearBits 44 = .ok (.getfield 28, 3) := by decide +kernel
theorem dX2_nearBits_47 : decode cX2_nearBits 47 = .ok (.getfield 65, 3) := by decide +kernel
theorem dX2_nearBits_50 : decode cX2_nearBits 50 = .ok (.iload 4, 2) := by decide +kernel
theorem dX2_nearBits_52 : decode cX2_nearBits 52 = .ok (.invokestatic 68, 3) := by decide +kernel
theorem dX2_nearBits_55 : decode cX2_nearBits 55 = .ok (.ishr, 1) := by decide +kernel
theorem dX2_nearBits_56 : decode cX2_nearBits 56 = .ok (.iconst 1, 1) := by decide +kernel
theorem dX2_nearBits_57 : decode cX2_nearBits 57 = .ok (.iand, 1) := by decide +kernel
theorem dX2_nearBits_58 : decode cX2_nearBits 58 = .ok (.iconst 1, 1) := by decide +kernel
theorem dX2_nearBits_59 : decode cX2_nearBits 59 = .ok (.if_icmp .ne 10, 3) := by decide +kernel
theorem dX2_nearBits_62 : decode cX2_nearBits 62 = .ok (.iload_n 3, 1) := by decide +kernel
theorem dX2_nearBits_63 : decode cX2_nearBits 63 = .ok (.iconst 1, 1) := by decide +kernel
theorem dX2_nearBits_64 : decode cX2_nearBits 64 = .ok (.iload 4, 2) := by decide +kernel
theorem dX2_nearBits_66 : decode cX2_nearBits 66 = .ok (.ishl, 1) := by decide +kernel
theorem dX2_nearBits_67 : decode cX2_nearBits 67 = .ok (.ior, 1) := by decide +kernel
theorem dX2_nearBits_68 : decode cX2_nearBits 68 = .ok (.istore_n 3, 1) := by decide +kernel
theorem dX2_nearBits_69 : decode cX2_nearBits 69 = .ok (.iinc 4 1, 3) := by decide +kernel
theorem dX2_nearBits_72 : decode cX2_nearBits 72 = .ok (.goto (-48), 3) := by decide +kernel
theorem dX2_nearBits_75 : decode cX2_nearBits 75 = .ok (.iload_n 3, 1) := by decide +kernel
theorem dX2_nearBits_76 : decode cX2_nearBits 76 = .ok (.ireturn, 1) := by decide +kernel
theorem dX2_give_0 : decode cX2_give 0 = .ok (.aload_n 0, 1) := by decide +kernel
theorem dX2_give_1 : decode cX2_give 1 = .ok (.getfield 21, 3) := by decide +kernel
theorem dX2_give_4 : decode cX2_give 4 = .ok (.iload_n 2, 1) := by decide +kernel
theorem dX2_give_5 : decode cX2_give 5 = .ok (.invokevirtual 79, 3) := by decide +kernel
theorem dX2_give_8 : decode cX2_give 8 = .ok (.ifCond .eq 25, 3) := by decide +kernel
theorem dX2_give_11 : decode cX2_give 11 = .ok (.aload_n 0, 1) := by decide +kernel
theorem dX2_give_12 : decode cX2_give 12 = .ok (.getfield 28, 3) := by decide +kernel
theorem dX2_give_15 : decode cX2_give 15 = .ok (.iload_n 1, 1) := by decide +kernel
theorem dX2_give_16 : decode cX2_give 16 = .ok (.iload_n 2, 1) := by decide +kernel
theorem dX2_give_17 : decode cX2_give 17 = .ok (.aload_n 0, 1) := by decide +kernel
theorem dX2_give_18 : decode cX2_give 18 = .ok (.getfield 21, 3) := by decide +kernel
theorem dX2_give_21 : decode cX2_give 21 = .ok (.iload_n 2, 1) := by decide +kernel
theorem dX2_give_22 : decode cX2_give 22 = .ok (.invokevirtual 83, 3) := by decide +kernel
theorem dX2_give_25 : decode cX2_give 25 = .ok (.iload_n 1, 1) := by decide +kernel
theorem dX2_give_26 : decode cX2_give 26 = .ok (.iload_n 1, 1) := by decide +kernel
theorem dX2_give_27 : decode cX2_give 27 = .ok (.invokevirtual 86, 3) := by decide +kernel
theorem dX2_give_30 : decode cX2_give 30 = .ok (.goto 11, 3) := by decide +kernel
theorem dX2_give_33 : decode cX2_give 33 = .ok (.aload_n 0, 1) := by decide +kernel
theorem dX2_give_34 : decode cX2_give 34 = .ok (.getfield 28, 3) := by decide +kernel
theorem dX2_give_37 : decode cX2_give 37 = .ok (.iload_n 1, 1) := by decide +kernel
theorem dX2_give_38 : decode cX2_give 38 = .ok (.invokevirtual 90, 3) := by decide +kernel
theorem dX2_give_41 : decode cX2_give 41 = .ok (.return_, 1) := by decide +kernel
theorem dX2_passHours_0 : decode cX2_passHours 0 = .ok (.iconst 0, 1) := by decide +kernel
theorem dX2_passHours_1 : decode cX2_passHours 1 = .ok (.istore_n 2, 1) := by decide +kernel
theorem dX2_passHours_2 : decode cX2_passHours 2 = .ok (.iload_n 2, 1) := by decide +kernel
theorem dX2_passHours_3 : decode cX2_passHours 3 = .ok (.iload_n 1, 1) := by decide +kernel
theorem dX2_passHours_4 : decode cX2_passHours 4 = .ok (.if_icmp .ge 14, 3) := by decide +kernel
theorem dX2_passHours_7 : decode cX2_passHours 7 = .ok (.aload_n 0, 1) := by decide +kernel
theorem dX2_passHours_8 : decode cX2_passHours 8 = .ok (.invokevirtual 94, 3) := by decide +kernel
theorem dX2_passHours_11 : decode cX2_passHours 11 = .ok (.pop, 1) := by decide +kernel
theorem dX2_passHours_12 : decode cX2_passHours 12 = .ok (.iinc 2 1, 3) := by decide +kernel
theorem dX2_passHours_15 : decode cX2_passHours 15 = .ok (.goto (-13), 3) := by decide +kernel
theorem dX2_passHours_18 : decode cX2_passHours 18 = .ok (.return_, 1) := by decide +kernel
theorem dX2_passHour_0 : decode cX2_passHour 0 = .ok (.iconst 0, 1) := by decide +kernel
theorem dX2_passHour_1 : decode cX2_passHour 1 = .ok (.istore_n 1, 1) := by decide +kernel
theorem dX2_passHour_2 : decode cX2_passHour 2 = .ok (.iload_n 1, 1) := by decide +kernel
theorem dX2_passHour_3 : decode cX2_passHour 3 = .ok (.aload_n 0, 1) := by decide +kernel
theorem dX2_passHour_4 : decode cX2_passHour 4 = .ok (.getfield 28, 3) := by decide +kernel
theorem dX2_passHour_7 : decode cX2_passHour 7 = .ok (.getfield 76, 3) := by decide +kernel
theorem dX2_passHour_10 : decode cX2_passHour 10 = .ok (.if_icmp .ge 65, 3) := by decide +kernel
theorem dX2_passHour_13 : decode cX2_passHour 13 = .ok (.aload_n 0, 1) := by decide +kernel
theorem dX2_passHour_14 : decode cX2_passHour 14 = .ok (.getfield 39, 3) := by decide +kernel
theorem dX2_passHour_17 : decode cX2_passHour 17 = .ok (.iload_n 1, 1) := by decide +kernel
theorem dX2_passHour_18 : decode cX2_passHour 18 = .ok (.aload_n 0, 1) := by decide +kernel
theorem dX2_passHour_19 : decode cX2_passHour 19 = .ok (.iload_n 1, 1) := by decide +kernel
theorem dX2_passHour_20 : decode cX2_passHour 20 = .ok (.invokevirtual 98, 3) := by decide +kernel
theorem dX2_passHour_23 : decode cX2_passHour 23 = .ok (.invokestatic 101, 3) := by decide +kernel
theorem dX2_passHour_26 : decode cX2_passHour 26 = .ok (.aload_n 0, 1) := by decide +kernel
theorem dX2_passHour_27 : decode cX2_passHour 27 = .ok (.getfield 43, 3) := by decide +kernel
theorem dX2_passHour_30 : decode cX2_passHour 30 = .ok (.iload_n 1, 1) := by decide +kernel
theorem dX2_passHour_31 : decode cX2_passHour 31 = .ok (.aload_n 0, 1) := by decide +kernel
theorem dX2_passHour_32 : decode cX2_passHour 32 = .ok (.getfield 28, 3) := by decide +kernel
theorem dX2_passHour_35 : decode cX2_passHour 35 = .ok (.iload_n 1, 1) := by decide +kernel
theorem dX2_passHour_36 : decode cX2_passHour 36 = .ok (.aload_n 0, 1) := by decide +kernel
theorem dX2_passHour_37 : decode cX2_passHour 37 = .ok (.getfield 36, 3) := by decide +kernel
theorem dX2_passHour_40 : decode cX2_passHour 40 = .ok (.aload_n 0, 1) := by decide +kernel
theorem dX2_passHour_41 : decode cX2_passHour 41 = .ok (.getfield 32, 3) := by decide +kernel
theorem dX2_passHour_44 : decode cX2_passHour 44 = .ok (.invokevirtual 105, 3) := by decide +kernel
theorem dX2_passHour_47 : decode cX2_passHour 47 = .ok (.ifCond .eq 17, 3) := by decide +kernel
theorem dX2_passHour_50 : decode cX2_passHour 50 = .ok (.aload_n 0, 1) := by decide +kernel
theorem dX2_passHour_51 : decode cX2_passHour 51 = .ok (.getfield 28, 3) := by decide +kernel
theorem dX2_passHour_54 : decode cX2_passHour 54 = .ok (.getfield 109, 3) := by decide +kernel
theorem dX2_passHour_57 : decode cX2_passHour 57 = .ok (.iload_n 1, 1) := by decide +kernel
theorem dX2_passHour_58 : decode cX2_passHour 58 = .ok (.invokestatic 68, 3) := by decide +kernel
theorem dX2_passHour_61 : decode cX2_passHour 61 = .ok (.goto 5, 3) := by decide +kernel
theorem dX2_passHour_64 : decode cX2_passHour 64 = .ok (.bipush (-9), 2) := by decide +kernel
theorem dX2_passHour_66 : decode cX2_passHour 66 = .ok (.invokestatic 101, 3) := by decide +kernel
theorem dX2_passHour_69 : decode cX2_passHour 69 = .ok (.iinc 1 1, 3) := by decide +kernel
theorem dX2_passHour_72 : decode cX2_passHour 72 = .ok (.goto (-70), 3) := by decide +kernel
theorem dX2_passHour_75 : decode cX2_passHour 75 = .ok (.iconst 0, 1) := by decide +kernel
theorem dX2_passHour_76 : decode cX2_passHour 76 = .ok (.istore_n 1, 1) := by decide +kernel
theorem dX2_passHour_77 : decode cX2_passHour 77 = .ok (.iload_n 1, 1) := by decide +kernel
theorem dX2_passHour_78 : decode cX2_passHour 78 = .ok (.aload_n 0, 1) := by decide +kernel
theorem dX2_passHour_79 : decode cX2_passHour 79 = .ok (.getfield 28, 3) := by decide +kernel
theorem dX2_passHour_82 : decode cX2_passHour 82 = .ok (.getfield 76, 3) := by decide +kernel
theorem dX2_passHour_85 : decode cX2_passHour 85 = .ok (.if_icmp .ge 14, 3) := by decide +kernel
theorem dX2_passHour_88 : decode cX2_passHour 88 = .ok (.aload_n 0, 1) := by decide +kernel
theorem dX2_passHour_89 : decode cX2_passHour 89 = .ok (.iload_n 1, 1) := by decide +kernel
theorem dX2_passHour_90 : decode cX2_passHour 90 = .ok (.invokevirtual 112, 3) := by decide +kernel
theorem dX2_passHour_93 : decode cX2_passHour 93 = .ok (.iinc 1 1, 3) := by decide +kernel
theorem dX2_passHour_96 : decode cX2_passHour 96 = .ok (.goto (-19), 3) := by decide +kernel
theorem dX2_passHour_99 : decode cX2_passHour 99 = .ok (.iconst 0, 1) := by decide +kernel
theorem dX2_passHour_100 : decode cX2_passHour 100 = .ok (.istore_n 1, 1) := by decide +kernel
theorem dX2_passHour_101 : decode cX2_passHour 101 = .ok (.iconst 0, 1) := by decide +kernel
theorem dX2_passHour_102 : decode cX2_passHour 102 = .ok (.istore_n 2, 1) := by decide +kernel
theorem dX2_passHour_103 : decode cX2_passHour 103 = .ok (.iload_n 2, 1) := by decide +kernel
theorem dX2_passHour_104 : decode cX2_passHour 104 = .ok (.aload_n 0, 1) := by decide +kernel
theorem dX2_passHour_105 : decode cX2_passHour 105 = .ok (.getfield 28, 3) := by decide +kernel
theorem dX2_passHour_108 : decode cX2_passHour 108 = .ok (.getfield 76, 3) := by decide +kernel
theorem dX2_passHour_111 : decode cX2_passHour 111 = .ok (.if_icmp .ge 89, 3) := by decide +kernel
theorem dX2_passHour_114 : decode cX2_passHour 114 = .ok (.aload_n 0, 1) := by decide +kernel
theorem dX2_passHour_115 : decode cX2_passHour 115 = .ok (.getfield 46, 3) := by decide +kernel
theorem dX2_passHour_118 : decode cX2_passHour 118 = .ok (.iload_n 2, 1) := by decide +kernel
theorem dX2_passHour_119 : decode cX2_passHour 119 = .ok (.invokestatic 68, 3) := by decide +kernel
theorem dX2_passHour_122 : decode cX2_passHour 122 = .ok (.istore_n 3, 1) := by decide +kernel
theorem dX2_passHour_123 : decode cX2_passHour 123 = .ok (.aload_n 0, 1) := by decide +kernel
theorem dX2_passHour_124 : decode cX2_passHour 124 = .ok (.getfield 21, 3) := by decide +kernel
theorem dX2_passHour_127 : decode cX2_passHour 127 = .ok (.iload_n 3, 1) := by decide +kernel
theorem dX2_passHour_128 : decode cX2_passHour 128 = .ok (.invokevirtual 79, 3) := by decide +kernel
theorem dX2_passHour_131 : decode cX2_passHour 131 = .ok (.ifCond .eq 42, 3) := by decide +kernel
theorem dX2_passHour_134 : decode cX2_passHour 134 = .ok (.aload_n 0, 1) := by decide +kernel
theorem dX2_passHour_135 : decode cX2_passHour 135 = .ok (.getfield 28, 3) := by decide +kernel
theorem dX2_passHour_138 : decode cX2_passHour 138 = .ok (.iload_n 2, 1) := by decide +kernel
theorem dX2_passHour_139 : decode cX2_passHour 139 = .ok (.iload_n 3, 1) := by decide +kernel
theorem dX2_passHour_140 : decode cX2_passHour 140 = .ok (.aload_n 0, 1) := by decide +kernel
theorem dX2_passHour_141 : decode cX2_passHour 141 = .ok (.getfield 21, 3) := by decide +kernel
theorem dX2_passHour_144 : decode cX2_passHour 144 = .ok (.iload_n 3, 1) := by decide +kernel
theorem dX2_passHour_145 : decode cX2_passHour 145 = .ok (.invokevirtual 83, 3) := by decide +kernel
theorem dX2_passHour_148 : decode cX2_passHour 148 = .ok (.aload_n 0, 1) := by decide +kernel
theorem dX2_passHour_149 : decode cX2_passHour 149 = .ok (.getfield 49, 3) := by decide +kernel
theorem dX2_passHour_152 : decode cX2_passHour 152 = .ok (.iload_n 2, 1) := by decide +kernel
theorem dX2_passHour_153 : decode cX2_passHour 153 = .ok (.invokestatic 68, 3) := by decide +kernel
theorem dX2_passHour_156 : decode cX2_passHour 156 = .ok (.aload_n 0, 1) := by decide +kernel
theorem dX2_passHour_157 : decode cX2_passHour 157 = .ok (.getfield 52, 3) := by decide +kernel
theorem dX2_passHour_160 : decode cX2_passHour 160 = .ok (.iload_n 2, 1) := by decide +kernel
theorem dX2_passHour_161 : decode cX2_passHour 161 = .ok (.invokestatic 68, 3) := by decide +kernel
theorem dX2_passHour_164 : decode cX2_passHour 164 = .ok (.invokevirtual 86, 3) := by decide +kernel
theorem dX2_passHour_167 : decode cX2_passHour 167 = .ok (.iinc 1 1, 3) := by decide +kernel
theorem dX2_passHour_170 : decode cX2_passHour 170 = .ok (.goto 16, 3) := by decide +kernel
theorem dX2_passHour_173 : decode cX2_passHour 173 = .ok (.aload_n 0, 1) := by decide +kernel
theorem dX2_passHour_174 : decode cX2_passHour 174 = .ok (.getfield 28, 3) := by decide +kernel
theorem dX2_passHour_177 : decode cX2_passHour 177 = .ok (.iload_n 2, 1) := by decide +kernel
theorem dX2_passHour_178 : decode cX2_passHour 178 = .ok (.aload_n 0, 1) := by decide +kernel
theorem dX2_passHour_179 : decode cX2_passHour 179 = .ok (.iload_n 2, 1) := by decide +kernel
theorem dX2_passHour_180 : decode cX2_passHour 180 = .ok (.invokevirtual 115, 3) := by decide +kernel
theorem dX2_passHour_183 : decode cX2_passHour 183 = .ok (.invokevirtual 118, 3) := by decide +kernel
theorem dX2_passHour_186 : decode cX2_passHour 186 = .ok (.aload_n 0, 1) := by decide +kernel
theorem dX2_passHour_187 : decode cX2_passHour 187 = .ok (.getfield 28, 3) := by decide +kernel
theorem dX2_passHour_190 : decode cX2_passHour 190 = .ok (.iload_n 2, 1) := by decide +kernel
theorem dX2_passHour_191 : decode cX2_passHour 191 = .ok (.invokevirtual 122, 3) := by decide +kernel
theorem dX2_passHour_194 : decode cX2_passHour 194 = .ok (.iinc 2 1, 3) := by decide +kernel
theorem dX2_passHour_197 : decode cX2_passHour 197 = .ok (.goto (-94), 3) := by decide +kernel
theorem dX2_passHour_200 : decode cX2_passHour 200 = .ok (.aload_n 0, 1) := by decide +kernel
theorem dX2_passHour_201 : decode cX2_passHour 201 = .ok (.dup, 1) := by decide +kernel
theorem dX2_passHour_202 : decode cX2_passHour 202 = .ok (.getfield 32, 3) := by decide +kernel
theorem dX2_passHour_205 : decode cX2_passHour 205 = .ok (.iconst 1, 1) := by decide +kernel
theorem dX2_passHour_206 : decode cX2_passHour 206 = .ok (.iadd, 1) := by decide +kernel
theorem dX2_passHour_207 : decode cX2_passHour 207 = .ok (.putfield 32, 3) := by decide +kernel
theorem dX2_passHour_210 : decode cX2_passHour 210 = .ok (.iload_n 1, 1) := by decide +kernel
theorem dX2_passHour_211 : decode cX2_passHour 211 = .ok (.ireturn, 1) := by decide +kernel
theorem dX2_listen_0 : decode cX2_listen 0 = .ok (.bipush (-9), 2) := by decide +kernel
theorem dX2_listen_2 : decode cX2_listen 2 = .ok (.istore_n 2, 1) := by decide +kernel
theorem dX2_listen_3 : decode cX2_listen 3 = .ok (.bipush (-9), 2) := by decide +kernel
theorem dX2_listen_5 : decode cX2_listen 5 = .ok (.istore_n 3, 1) := by decide +kernel
theorem dX2_listen_6 : decode cX2_listen 6 = .ok (.iconst 0, 1) := by decide +kernel
theorem dX2_listen_7 : decode cX2_listen 7 = .ok (.istore 4, 2) := by decide +kernel
theorem dX2_listen_9 : decode cX2_listen 9 = .ok (.iload 4, 2) := by decide +kernel
theorem dX2_listen_11 : decode cX2_listen 11 = .ok (.aload_n 0, 1) := by decide +kernel
theorem dX2_listen_12 : decode cX2_listen 12 = .ok (.getfield 28, 3) := by decide +kernel
theorem dX2_listen_15 : decode cX2_listen 15 = .ok (.getfield 76, 3) := by decide +kernel
theorem dX2_listen_18 : decode cX2_listen 18 = .ok (.if_icmp .ge 84, 3) := by decide +kernel
theorem dX2_listen_21 : decode cX2_listen 21 = .ok (.aload_n 0, 1) := by decide +kernel
theorem dX2_listen_22 : decode cX2_listen 22 = .ok (.getfield 43, 3) := by decide +kernel
theorem dX2_listen_25 : decode cX2_listen 25 = .ok (.iload 4, 2) := by decide +kernel
theorem dX2_listen_27 : decode cX2_listen 27 = .ok (.invokestatic 68, 3) := by decide +kernel
theorem dX2_listen_30 : decode cX2_listen 30 = .ok (.istore 5, 2) := by decide +kernel
theorem dX2_listen_32 : decode cX2_listen 32 = .ok (.aload_n 0, 1) := by decide +kernel
theorem dX2_listen_33 : decode cX2_listen 33 = .ok (.getfield 39, 3) := by decide +kernel
theorem dX2_listen_36 : decode cX2_listen 36 = .ok (.iload_n 1, 1) := by decide +kernel
theorem dX2_listen_37 : decode cX2_listen 37 = .ok (.invokestatic 68, 3) := by decide +kernel
theorem dX2_listen_40 : decode cX2_listen 40 = .ok (.iload 4, 2) := by decide +kernel
theorem dX2_listen_42 : decode cX2_listen 42 = .ok (.ishr, 1) := by decide +kernel
theorem dX2_listen_43 : decode cX2_listen 43 = .ok (.iconst 1, 1) := by decide +kernel
theorem dX2_listen_44 : decode cX2_listen 44 = .ok (.iand, 1) := by decide +kernel
theorem dX2_listen_45 : decode cX2_listen 45 = .ok (.iconst 1, 1) := by decide +kernel
theorem dX2_listen_46 : decode cX2_listen 46 = .ok (.if_icmp .ne 7, 3) := by decide +kernel
theorem dX2_listen_49 : decode cX2_listen 49 = .ok (.iconst 1, 1) := by decide +kernel
theorem dX2_listen_50 : decode cX2_listen 50 = .ok (.goto 4, 3) := by decide +kernel
theorem dX2_listen_53 : decode cX2_listen 53 = .ok (.iconst 0, 1) := by decide +kernel
theorem dX2_listen_54 : decode cX2_listen 54 = .ok (.istore 6, 2) := by decide +kernel
theorem dX2_listen_56 : decode cX2_listen 56 = .ok (.iload 6, 2) := by decide +kernel
theorem dX2_listen_58 : decode cX2_listen 58 = .ok (.ifCond .eq 38, 3) := by decide +kernel
theorem dX2_listen_61 : decode cX2_listen 61 = .ok (.iload 5, 2) := by decide +kernel
theorem dX2_listen_63 : decode cX2_listen 63 = .ok (.aload_n 0, 1) := by decide +kernel
theorem dX2_listen_64 : decode cX2_listen 64 = .ok (.getfield 28, 3) := by decide +kernel
theorem dX2_listen_67 : decode cX2_listen 67 = .ok (.getfield 109, 3) := by decide +kernel
theorem dX2_listen_70 : decode cX2_listen 70 = .ok (.iload_n 1, 1) := by decide +kernel
theorem dX2_listen_71 : decode cX2_listen 71 = .ok (.invokestatic 68, 3) := by decide +kernel
theorem dX2_listen_74 : decode cX2_listen 74 = .ok (.if_icmp .eq 22, 3) := by decide +kernel
theorem dX2_listen_77 : decode cX2_listen 77 = .ok (.aload_n 0, 1) := by decide +kernel
theorem dX2_listen_78 : decode cX2_listen 78 = .ok (.getfield 21, 3) := by decide +kernel
theorem dX2_listen_81 : decode cX2_listen 81 = .ok (.iload 5, 2) := by decide +kernel
theorem dX2_listen_83 : decode cX2_listen 83 = .ok (.iload_n 2, 1) := by decide +kernel
theorem dX2_listen_84 : decode cX2_listen 84 = .ok (.invokevirtual 125, 3) := by decide +kernel
theorem dX2_listen_87 : decode cX2_listen 87 = .ok (.ifCond .eq 9, 3) := by decide +kernel
theorem dX2_listen_90 : decode cX2_listen 90 = .ok (.iload 5, 2) := by decide +kernel
theorem dX2_listen_92 : decode cX2_listen 92 = .ok (.istore_n 2, 1) := by decide +kernel
theorem dX2_listen_93 : decode cX2_listen 93 = .ok (.iload 4, 2) := by decide +kernel
theorem dX2_listen_95 : decode cX2_listen 95 = .ok (.istore_n 3, 1) := by decide +kernel
theorem dX2_listen_96 : decode cX2_listen 96 = .ok (.iinc 4 1, 3) := by decide +kernel
theorem dX2_listen_99 : decode cX2_listen 99 = .ok (.goto (-90), 3) := by decide +kernel
theorem dX2_listen_102 : decode cX2_listen 102 = .ok (.aload_n 0, 1) := by decide +kernel
theorem dX2_listen_103 : decode cX2_listen 103 = .ok (.getfield 21, 3) := by decide +kernel
theorem dX2_listen_106 : decode cX2_listen 106 = .ok (.iload_n 2, 1) := by decide +kernel
theorem dX2_listen_107 : decode cX2_listen 107 = .ok (.invokevirtual 79, 3) := by decide +kernel
theorem dX2_listen_110 : decode cX2_listen 110 = .ok (.ifCond .eq 51, 3) := by decide +kernel
theorem dX2_listen_113 : decode cX2_listen 113 = .ok (.aload_n 0, 1) := by decide +kernel
theorem dX2_listen_114 : decode cX2_listen 114 = .ok (.getfield 21, 3) := by decide +kernel
theorem dX2_listen_117 : decode cX2_listen 117 = .ok (.getfield 129, 3) := by decide +kernel
theorem dX2_listen_120 : decode cX2_listen 120 = .ok (.iload_n 2, 1) := by decide +kernel
theorem dX2_listen_121 : decode cX2_listen 121 = .ok (.invokestatic 68, 3) := by decide +kernel
theorem dX2_listen_124 : decode cX2_listen 124 = .ok (.aload_n 0, 1) := by decide +kernel
theorem dX2_listen_125 : decode cX2_listen 125 = .ok (.getfield 28, 3) := by decide +kernel
theorem dX2_listen_128 : decode cX2_listen 128 = .ok (.iload_n 1, 1) := by decide +kernel
theorem dX2_listen_129 : decode cX2_listen 129 = .ok (.invokevirtual 132, 3) := by decide +kernel
theorem dX2_listen_132 : decode cX2_listen 132 = .ok (.if_icmp .le 29, 3) := by decide +kernel
theorem dX2_listen_135 : decode cX2_listen 135 = .ok (.aload_n 0, 1) := by decide +kernel
theorem dX2_listen_136 : decode cX2_listen 136 = .ok (.getfield 21, 3) := by decide +kernel
theorem dX2_listen_139 : decode cX2_listen 139 = .ok (.iload_n 2, 1) := by decide +kernel
theorem dX2_listen_140 : decode cX2_listen 140 = .ok (.invokevirtual 83, 3) := by decide +kernel
theorem dX2_listen_143 : decode cX2_listen 143 = .ok (.aload_n 0, 1) := by decide +kernel
theorem dX2_listen_144 : decode cX2_listen 144 = .ok (.getfield 28, 3) := by decide +kernel
theorem dX2_listen_147 : decode cX2_listen 147 = .ok (.getfield 135, 3) := by decide +kernel
theorem dX2_listen_150 : decode cX2_listen 150 = .ok (.iload_n 1, 1) := by decide +kernel
theorem dX2_listen_151 : decode cX2_listen 151 = .ok (.invokestatic 68, 3) := by decide +kernel
theorem dX2_listen_154 : decode cX2_listen 154 = .ok (.if_icmp .le 7, 3) := by decide +kernel
theorem dX2_listen_157 : decode cX2_listen 157 = .ok (.iconst 1, 1) := by decide +kernel
theorem dX2_listen_158 : decode cX2_listen 158 = .ok (.goto 4, 3) := by decide +kernel
theorem dX2_listen_161 : decode cX2_listen 161 = .ok (.iconst 0, 1) := by decide +kernel
theorem dX2_listen_162 : decode cX2_listen 162 = .ok (.istore 4, 2) := by decide +kernel
theorem dX2_listen_164 : decode cX2_listen 164 = .ok (.aload_n 0, 1) := by decide +kernel
theorem dX2_listen_165 : decode cX2_listen 165 = .ok (.getfield 46, 3) := by decide +kernel
theorem dX2_listen_168 : decode cX2_listen 168 = .ok (.iload_n 1, 1) := by decide +kernel
theorem dX2_listen_169 : decode cX2_listen 169 = .ok (.iload 4, 2) := by decide +kernel
theorem dX2_listen_171 : decode cX2_listen 171 = .ok (.ifCond .eq 7, 3) := by decide +kernel
theorem dX2_listen_174 : decode cX2_listen 174 = .ok (.iload_n 2, 1) := by decide +kernel
theorem dX2_listen_175 : decode cX2_listen 175 = .ok (.goto 5, 3) := by decide +kernel
theorem dX2_listen_178 : decode cX2_listen 178 = .ok (.bipush (-9), 2) := by decide +kernel
theorem dX2_listen_180 : decode cX2_listen 180 = .ok (.invokestatic 101, 3) := by decide +kernel
theorem dX2_listen_183 : decode cX2_listen 183 = .ok (.aload_n 0, 1) := by decide +kernel
theorem dX2_listen_184 : decode cX2_listen 184 = .ok (.getfield 49, 3) := by decide +kernel
theorem dX2_listen_187 : decode cX2_listen 187 = .ok (.iload_n 1, 1) := by decide +kernel
theorem dX2_listen_188 : decode cX2_listen 188 = .ok (.iload_n 3, 1) := by decide +kernel
theorem dX2_listen_189 : decode cX2_listen 189 = .ok (.invokestatic 101, 3) := by decide +kernel
theorem dX2_listen_192 : decode cX2_listen 192 = .ok (.aload_n 0, 1) := by decide +kernel
theorem dX2_listen_193 : decode cX2_listen 193 = .ok (.getfield 52, 3) := by decide +kernel
theorem dX2_listen_196 : decode cX2_listen 196 = .ok (.iload_n 1, 1) := by decide +kernel
theorem dX2_listen_197 : decode cX2_listen 197 = .ok (.aload_n 0, 1) := by decide +kernel
theorem dX2_listen_198 : decode cX2_listen 198 = .ok (.getfield 28, 3) := by decide +kernel
theorem dX2_listen_201 : decode cX2_listen 201 = .ok (.getfield 138, 3) := by decide +kernel
theorem dX2_listen_204 : decode cX2_listen 204 = .ok (.iload_n 3, 1) := by decide +kernel
theorem dX2_listen_205 : decode cX2_listen 205 = .ok (.invokestatic 68, 3) := by decide +kernel
theorem dX2_listen_208 : decode cX2_listen 208 = .ok (.invokestatic 101, 3) := by decide +kernel
theorem dX2_listen_211 : decode cX2_listen 211 = .ok (.return_, 1) := by decide +kernel
theorem dX2_weakening_0 : decode cX2_weakening 0 = .ok (.aload_n 0, 1) := by decide +kernel
theorem dX2_weakening_1 : decode cX2_weakening 1 = .ok (.getfield 28, 3) := by decide +kernel
theorem dX2_weakening_4 : decode cX2_weakening 4 = .ok (.getfield 109, 3) := by decide +kernel
theorem dX2_weakening_7 : decode cX2_weakening 7 = .ok (.iload_n 1, 1) := by decide +kernel
theorem dX2_weakening_8 : decode cX2_weakening 8 = .ok (.invokestatic 68, 3) := by decide +kernel
theorem dX2_weakening_11 : decode cX2_weakening 11 = .ok (.istore_n 2, 1) := by decide +kernel
theorem dX2_weakening_12 : decode cX2_weakening 12 = .ok (.aload_n 0, 1) := by decide +kernel
theorem dX2_weakening_13 : decode cX2_weakening 13 = .ok (.getfield 28, 3) := by decide +kernel
theorem dX2_weakening_16 : decode cX2_weakening 16 = .ok (.getfield 141, 3) := by decide +kernel
theorem dX2_weakening_19 : decode cX2_weakening 19 = .ok (.iload_n 1, 1) := by decide +kernel
theorem dX2_weakening_20 : decode cX2_weakening 20 = .ok (.invokestatic 68, 3) := by decide +kernel
theorem dX2_weakening_23 : decode cX2_weakening 23 = .ok (.ifCond .le 7, 3) := by decide +kernel
theorem dX2_weakening_26 : decode cX2_weakening 26 = .ok (.iconst 1, 1) := by decide +kernel
theorem dX2_weakening_27 : decode cX2_weakening 27 = .ok (.goto 4, 3) := by decide +kernel
theorem dX2_weakening_30 : decode cX2_weakening 30 = .ok (.iconst 0, 1) := by decide +kernel
theorem dX2_weakening_31 : decode cX2_weakening 31 = .ok (.istore_n 3, 1) := by decide +kernel
theorem dX2_weakening_32 : decode cX2_weakening 32 = .ok (.aload_n 0, 1) := by decide +kernel
theorem dX2_weakening_33 : decode cX2_weakening 33 = .ok (.getfield 21, 3) := by decide +kernel
theorem dX2_weakening_36 : decode cX2_weakening 36 = .ok (.iload_n 2, 1) := by decide +kernel
theorem dX2_weakening_37 : decode cX2_weakening 37 = .ok (.invokevirtual 79, 3) := by decide +kernel
theorem dX2_weakening_40 : decode cX2_weakening 40 = .ok (.ifCond .eq 20, 3) := by decide +kernel
theorem dX2_weakening_43 : decode cX2_weakening 43 = .ok (.aload_n 0, 1) := by decide +kernel
theorem dX2_weakening_44 : decode cX2_weakening 44 = .ok (.getfield 21, 3) := by decide +kernel
theorem dX2_weakening_47 : decode cX2_weakening 47 = .ok (.iload_n 2, 1) := by decide +kernel
theorem dX2_weakening_48 : decode cX2_weakening 48 = .ok (.aload_n 0, 1) := by decide +kernel
theorem dX2_weakening_49 : decode cX2_weakening 49 = .ok (.getfield 32, 3) := by decide +kernel
theorem dX2_weakening_52 : decode cX2_weakening 52 = .ok (.invokevirtual 144, 3) := by decide +kernel
theorem dX2_weakening_55 : decode cX2_weakening 55 = .ok (.iload_n 3, 1) := by decide +kernel
theorem dX2_weakening_56 : decode cX2_weakening 56 = .ok (.iadd, 1) := by decide +kernel
theorem dX2_weakening_57 : decode cX2_weakening 57 = .ok (.goto 4, 3) := by decide +kernel
theorem dX2_weakening_60 : decode cX2_weakening 60 = .ok (.iconst 0, 1) := by decide +kernel
theorem dX2_weakening_61 : decode cX2_weakening 61 = .ok (.ireturn, 1) := by decide +kernel
theorem dX3_init_0 : decode cX3_init 0 = .ok (.aload_n 0, 1) := by decide +kernel
theorem dX3_init_1 : decode cX3_init 1 = .ok (.invokespecial 3, 3) := by decide +kernel
theorem dX3_init_4 : decode cX3_init 4 = .ok (.aload_n 0, 1) := by decide +kernel
theorem dX3_init_5 : decode cX3_init 5 = .ok (.iconst 5, 1) := by decide +kernel
theorem dX3_init_6 : decode cX3_init 6 = .ok (.newarray .int, 2) := by decide +kernel
theorem dX3_init_8 : decode cX3_init 8 = .ok (.putfield 9, 3) := by decide +kernel
theorem dX3_init_11 : decode cX3_init 11 = .ok (.aload_n 0, 1) := by decide +kernel
theorem dX3_init_12 : decode cX3_init 12 = .ok (.iconst 5, 1) := by decide +kernel
theorem dX3_init_13 : decode cX3_init 13 = .ok (.newarray .int, 2) := by decide +kernel
theorem dX3_init_15 : decode cX3_init 15 = .ok (.putfield 15, 3) := by decide +kernel
theorem dX3_init_18 : decode cX3_init 18 = .ok (.aload_n 0, 1) := by decide +kernel
theorem dX3_init_19 : decode cX3_init 19 = .ok (.iconst 5, 1) := by decide +kernel
theorem dX3_init_20 : decode cX3_init 20 = .ok (.newarray .int, 2) := by decide +kernel
theorem dX3_init_22 : decode cX3_init 22 = .ok (.putfield 18, 3) := by decide +kernel
theorem dX3_init_25 : decode cX3_init 25 = .ok (.aload_n 0, 1) := by decide +kernel
theorem dX3_init_26 : decode cX3_init 26 = .ok (.iconst 0, 1) := by decide +kernel
theorem dX3_init_27 : decode cX3_init 27 = .ok (.putfield 21, 3) := by decide +kernel
theorem dX3_init_30 : decode cX3_init 30 = .ok (.return_, 1) := by decide +kernel
theorem dX3_has_0 : decode cX3_has 0 = .ok (.iload_n 1, 1) := by decide +kernel
theorem dX3_has_1 : decode cX3_has 1 = .ok (.ifCond .lt 15, 3) := by decide +kernel
theorem dX3_has_4 : decode cX3_has 4 = .ok (.iload_n 1, 1) := by decide +kernel
theorem dX3_has_5 : decode cX3_has 5 = .ok (.aload_n 0, 1) := by decide +kernel
theorem dX3_has_6 : decode cX3_has 6 = .ok (.getfield 21, 3) := by decide +kernel
theorem dX3_has_9 : decode cX3_has 9 = .ok (.if_icmp .ge 7, 3) := by decide +kernel
theorem dX3_has_12 : decode cX3_has 12 = .ok (.iconst 1, 1) := by decide +kernel
theorem dX3_has_13 : decode cX3_has 13 = .ok (.goto 4, 3) := by decide +kernel
theorem dX3_has_16 : decode cX3_has 16 = .ok (.iconst 0, 1) := by decide +kernel
theorem dX3_has_17 : decode cX3_has 17 = .ok (.ireturn, 1) := by decide +kernel
theorem dX3_isFull_0 : decode cX3_isFull 0 = .ok (.aload_n 0, 1) := by decide +kernel
theorem dX3_isFull_1 : decode cX3_isFull 1 = .ok (.getfield 21, 3) := by decide +kernel
theorem dX3_isFull_4 : decode cX3_isFull 4 = .ok (.iconst 5, 1) := by decide +kernel
theorem dX3_isFull_5 : decode cX3_isFull 5 = .ok (.if_icmp .lt 7, 3) := by decide +kernel
theorem dX3_isFull_8 : decode cX3_isFull 8 = .ok (.iconst 1, 1) := by decide +kernel
theorem dX3_isFull_9 : decode cX3_isFull 9 = .ok (.goto 4, 3) := by decide +kernel
theorem dX3_isFull_12 : decode cX3_isFull 12 = .ok (.iconst 0, 1) := by decide +kernel
theorem dX3_isFull_13 : decode cX3_isFull 13 = .ok (.ireturn, 1) := by decide +kernel
theorem dX3_add_0 : decode cX3_add 0 = .ok (.aload_n 0, 1) := by decide +kernel
theorem dX3_add_1 : decode cX3_add 1 = .ok (.invokevirtual 25, 3) := by decide +kernel
theorem dX3_add_4 : decode cX3_add 4 = .ok (.ifCond .ne 8, 3) := by decide +kernel
theorem dX3_add_7 : decode cX3_add 7 = .ok (.iload_n 3, 1) := by decide +kernel
theorem dX3_add_8 : decode cX3_add 8 = .ok (.iconst 1, 1) := by decide +kernel
theorem dX3_add_9 : decode cX3_add 9 = .ok (.if_icmp .ge 5, 3) := by decide +kernel
theorem dX3_add_12 : decode cX3_add 12 = .ok (.iconst 0, 1) := by decide +kernel
theorem dX3_add_13 : decode cX3_add 13 = .ok (.ireturn, 1) := by decide +kernel
theorem dX3_add_14 : decode cX3_add 14 = .ok (.aload_n 0, 1) := by decide +kernel
theorem dX3_add_15 : decode cX3_add 15 = .ok (.getfield 9, 3) := by decide +kernel
theorem dX3_add_18 : decode cX3_add 18 = .ok (.aload_n 0, 1) := by decide +kernel
theorem dX3_add_19 : decode cX3_add 19 = .ok (.getfield 21, 3) := by decide +kernel
theorem dX3_add_22 : decode cX3_add 22 = .ok (.iload_n 1, 1) := by decide +kernel
theorem dX3_add_23 : decode cX3_add 23 = .ok (.invokestatic 29, 3) := by decide +kernel
theorem dX3_add_26 : decode cX3_add 26 = .ok (.aload_n 0, 1) := by decide +kernel
theorem dX3_add_27 : decode cX3_add 27 = .ok (.getfield 15, 3) := by decide +kernel
theorem dX3_add_30 : decode cX3_add 30 = .ok (.aload_n 0, 1) := by decide +kernel
theorem dX3_add_31 : decode cX3_add 31 = .ok (.getfield 21, 3) := by decide +kernel
theorem dX3_add_34 : decode cX3_add 34 = .ok (.iload_n 2, 1) := by decide +kernel
theorem dX3_add_35 : decode cX3_add 35 = .ok (.invokestatic 29, 3) := by decide +kernel
theorem dX3_add_38 : decode cX3_add 38 = .ok (.aload_n 0, 1) := by decide +kernel
theorem dX3_add_39 : decode cX3_add 39 = .ok (.getfield 18, 3) := by decide +kernel
theorem dX3_add_42 : decode cX3_add 42 = .ok (.aload_n 0, 1) := by decide +kernel
theorem dX3_add_43 : decode cX3_add 43 = .ok (.getfield 21, 3) := by decide +kernel
theorem dX3_add_46 : decode cX3_add 46 = .ok (.iload_n 3, 1) := by decide +kernel
theorem dX3_add_47 : decode cX3_add 47 = .ok (.invokestatic 29, 3) := by decide +kernel
theorem dX3_add_50 : decode cX3_add 50 = .ok (.aload_n 0, 1) := by decide +kernel
theorem dX3_add_51 : decode cX3_add 51 = .ok (.dup, 1) := by decide +kernel
theorem dX3_add_52 : decode cX3_add 52 = .ok (.getfield 21, 3) := by decide +kernel
theorem dX3_add_55 : decode cX3_add 55 = .ok (.iconst 1, 1) := by decide +kernel
theorem dX3_add_56 : decode cX3_add 56 = .ok (.iadd, 1) := by decide +kernel
theorem dX3_add_57 : decode cX3_add 57 = .ok (.putfield 21, 3) := by decide +kernel
theorem dX3_add_60 : decode cX3_add 60 = .ok (.iconst 1, 1) := by decide +kernel
theorem dX3_add_61 : decode cX3_add 61 = .ok (.ireturn, 1) := by decide +kernel
theorem dX3_fresh_0 : decode cX3_fresh 0 = .ok (.iconst 2, 1) := by decide +kernel
theorem dX3_fresh_1 : decode cX3_fresh 1 = .ok (.aload_n 0, 1) := by decide +kernel
theorem dX3_fresh_2 : decode cX3_fresh 2 = .ok (.getfield 15, 3) := by decide +kernel
theorem dX3_fresh_5 : decode cX3_fresh 5 = .ok (.iload_n 1, 1) := by decide +kernel
theorem dX3_fresh_6 : decode cX3_fresh 6 = .ok (.invokestatic 33, 3) := by decide +kernel
theorem dX3_fresh_9 : decode cX3_fresh 9 = .ok (.imul, 1) := by decide +kernel
theorem dX3_fresh_10 : decode cX3_fresh 10 = .ok (.aload_n 0, 1) := by decide +kernel
theorem dX3_fresh_11 : decode cX3_fresh 11 = .ok (.getfield 18, 3) := by decide +kernel
theorem dX3_fresh_14 : decode cX3_fresh 14 = .ok (.iload_n 1, 1) := by decide +kernel
theorem dX3_fresh_15 : decode cX3_fresh 15 = .ok (.invokestatic 33, 3) := by decide +kernel
theorem dX3_fresh_18 : decode cX3_fresh 18 = .ok (.iadd, 1) := by decide +kernel
theorem dX3_fresh_19 : decode cX3_fresh 19 = .ok (.istore_n 2, 1) := by decide +kernel
theorem dX3_fresh_20 : decode cX3_fresh 20 = .ok (.aload_n 0, 1) := by decide +kernel
theorem dX3_fresh_21 : decode cX3_fresh 21 = .ok (.getfield 9, 3) := by decide +kernel
theorem dX3_fresh_24 : decode cX3_fresh 24 = .ok (.iload_n 1, 1) := by decide +kernel
theorem dX3_fresh_25 : decode cX3_fresh 25 = .ok (.invokestatic 33, 3) := by decide +kernel
theorem dX3_fresh_28 : decode cX3_fresh 28 = .ok (.lookupswitch 38 #[(2, 28), (4, 32)], 28) := by decide +kernel
theorem dX3_fresh_56 : decode cX3_fresh 56 = .ok (.iload_n 2, 1) := by decide +kernel
theorem dX3_fresh_57 : decode cX3_fresh 57 = .ok (.iconst 3, 1) := by decide +kernel
theorem dX3_fresh_58 : decode cX3_fresh 58 = .ok (.iadd, 1) := by decide +kernel
theorem dX3_fresh_59 : decode cX3_fresh 59 = .ok (.ireturn, 1) := by decide +kernel
theorem dX3_fresh_60 : decode cX3_fresh 60 = .ok (.iconst 2, 1) := by decide +kernel
theorem dX3_fresh_61 : decode cX3_fresh 61 = .ok (.iload_n 2, 1) := by decide +kernel
theorem dX3_fresh_62 : decode cX3_fresh 62 = .ok (.iconst 3, 1) := by decide +kernel
theorem dX3_fresh_63 : decode cX3_fresh 63 = .ok (.iadd, 1) := by decide +kernel
theorem dX3_fresh_64 : decode cX3_fresh 64 = .ok (.imul, 1) := by decide +kernel
theorem dX3_fresh_65 : decode cX3_fresh 65 = .ok (.ireturn, 1) := by decide +kernel
theorem dX3_fresh_66 : decode cX3_fresh 66 = .ok (.iload_n 2, 1) := by decide +kernel
theorem dX3_fresh_67 : decode cX3_fresh 67 = .ok (.ireturn, 1) := by decide +kernel
theorem dX3_fading_0 : decode cX3_fading 0 = .ok (.aload_n 0, 1) := by decide +kernel
theorem dX3_fading_1 : decode cX3_fading 1 = .ok (.getfield 9, 3) := by decide +kernel
theorem dX3_fading_4 : decode cX3_fading 4 = .ok (.iload_n 1, 1) := by decide +kernel
theorem dX3_fading_5 : decode cX3_fading 5 = .ok (.invokestatic 33, 3) := by decide +kernel
theorem dX3_fading_8 : decode cX3_fading 8 = .ok (.tableswitch 73 0 5 #[40, 73, 42, 47, 44, 61], 40) := by decide +kernel
theorem dX3_fading_48 : decode cX3_fading 48 = .ok (.iconst 2, 1) := by decide +kernel
theorem dX3_fading_49 : decode cX3_fading 49 = .ok (.ireturn, 1) := by decide +kernel
theorem dX3_fading_50 : decode cX3_fading 50 = .ok (.iconst 3, 1) := by decide +kernel
theorem dX3_fading_51 : decode cX3_fading 51 = .ok (.ireturn, 1) := by decide +kernel
theorem dX3_fading_52 : decode cX3_fading 52 = .ok (.bipush 6, 2) := by decide +kernel
theorem dX3_fading_54 : decode cX3_fading 54 = .ok (.ireturn, 1) := by decide +kernel
theorem dX3_fading_55 : decode cX3_fading 55 = .ok (.iload_n 2, 1) := by decide +kernel
theorem dX3_fading_56 : decode cX3_fading 56 = .ok (.bipush 6, 2) := by decide +kernel
theorem dX3_fading_58 : decode cX3_fading 58 = .ok (.irem, 1) := by decide +kernel
theorem dX3_fading_59 : decode cX3_fading 59 = .ok (.ifCond .ne 8, 3) := by decide +kernel
theorem dX3_fading_62 : decode cX3_fading 62 = .ok (.bipush (-4), 2) := by decide +kernel
theorem dX3_fading_64 : decode cX3_fading 64 = .ok (.goto 4, 3) := by decide +kernel
theorem dX3_fading_67 : decode cX3_fading 67 = .ok (.iconst 1, 1) := by decide +kernel
theorem dX3_fading_68 : decode cX3_fading 68 = .ok (.ireturn, 1) := by decide +kernel
theorem dX3_fading_69 : decode cX3_fading 69 = .ok (.iload_n 2, 1) := by decide +kernel
theorem dX3_fading_70 : decode cX3_fading 70 = .ok (.iconst 2, 1) := by decide +kernel
theorem dX3_fading_71 : decode cX3_fading 71 = .ok (.irem, 1) := by decide +kernel
theorem dX3_fading_72 : decode cX3_fading 72 = .ok (.ifCond .ne 7, 3) := by decide +kernel
theorem dX3_fading_75 : decode cX3_fading 75 = .ok (.iconst 1, 1) := by decide +kernel
theorem dX3_fading_76 : decode cX3_fading 76 = .ok (.goto 4, 3) := by decide +kernel
theorem dX3_fading_79 : decode cX3_fading 79 = .ok (.iconst 0, 1) := by decide +kernel
theorem dX3_fading_80 : decode cX3_fading 80 = .ok (.ireturn, 1) := by decide +kernel
theorem dX3_fading_81 : decode cX3_fading 81 = .ok (.iconst 1, 1) := by decide +kernel
theorem dX3_fading_82 : decode cX3_fading 82 = .ok (.ireturn, 1) := by decide +kernel
theorem dX3_isStronger_0 : decode cX3_isStronger 0 = .ok (.aload_n 0, 1) := by decide +kernel
theorem dX3_isStronger_1 : decode cX3_isStronger 1 = .ok (.iload_n 1, 1) := by decide +kernel
theorem dX3_isStronger_2 : decode cX3_isStronger 2 = .ok (.invokevirtual 37, 3) := by decide +kernel
theorem dX3_isStronger_5 : decode cX3_isStronger 5 = .ok (.ifCond .eq 11, 3) := by decide +kernel
theorem dX3_isStronger_8 : decode cX3_isStronger 8 = .ok (.aload_n 0, 1) := by decide +kernel
theorem dX3_isStronger_9 : decode cX3_isStronger 9 = .ok (.iload_n 2, 1) := by decide +kernel
theorem dX3_isStronger_10 : decode cX3_isStronger 10 = .ok (.invokevirtual 37, 3) := by decide +kernel
theorem dX3_isStronger_13 : decode cX3_isStronger 13 = .ok (.ifCond .ne 9, 3) := by decide +kernel
theorem dX3_isStronger_16 : decode cX3_isStronger 16 = .ok (.aload_n 0, 1) := by decide +kernel
theorem dX3_isStronger_17 : decode cX3_isStronger 17 = .ok (.iload_n 1, 1) := by decide +kernel
theorem dX3_isStronger_18 : decode cX3_isStronger 18 = .ok (.invokevirtual 37, 3) := by decide +kernel
theorem dX3_isStronger_21 : decode cX3_isStronger 21 = .ok (.ireturn, 1) := by decide +kernel
theorem dX3_isStronger_22 : decode cX3_isStronger 22 = .ok (.aload_n 0, 1) := by decide +kernel
theorem dX3_isStronger_23 : decode cX3_isStronger 23 = .ok (.getfield 15, 3) := by decide +kernel
theorem dX3_isStronger_26 : decode cX3_isStronger 26 = .ok (.iload_n 1, 1) := by decide +kernel
theorem dX3_isStronger_27 : decode cX3_isStronger 27 = .ok (.invokestatic 33, 3) := by decide +kernel
theorem dX3_isStronger_30 : decode cX3_isStronger 30 = .ok (.aload_n 0, 1) := by decide +kernel
theorem dX3_isStronger_31 : decode cX3_isStronger 31 = .ok (.getfield 15, 3) := by decide +kernel
theorem dX3_isStronger_34 : decode cX3_isStronger 34 = .ok (.iload_n 2, 1) := by decide +kernel
theorem dX3_isStronger_35 : decode cX3_isStronger 35 = .ok (.invokestatic 33, 3) := by decide +kernel
theorem dX3_isStronger_38 : decode cX3_isStronger 38 = .ok (.isub, 1) := by decide +kernel
theorem dX3_isStronger_39 : decode cX3_isStronger 39 = .ok (.istore_n 3, 1) := by decide +kernel
theorem dX3_isStronger_40 : decode cX3_isStronger 40 = .ok (.iload_n 3, 1) := by decide +kernel
theorem dX3_isStronger_41 : decode cX3_isStronger 41 = .ok (.ifCond .gt 12, 3) := by decide +kernel
theorem dX3_isStronger_44 : decode cX3_isStronger 44 = .ok (.iload_n 3, 1) := by decide +kernel
theorem dX3_isStronger_45 : decode cX3_isStronger 45 = .ok (.ifCond .ne 12, 3) := by decide +kernel
theorem dX3_isStronger_48 : decode cX3_isStronger 48 = .ok (.iload_n 1, 1) := by decide +kernel
theorem dX3_isStronger_49 : decode cX3_isStronger 49 = .ok (.iload_n 2, 1) := by decide +kernel
theorem dX3_isStronger_50 : decode cX3_isStronger 50 = .ok (.if_icmp .ge 7, 3) := by decide +kernel
theorem dX3_isStronger_53 : decode cX3_isStronger 53 = .ok (.iconst 1, 1) := by decide +kernel
theorem dX3_isStronger_54 : decode cX3_isStronger 54 = .ok (.goto 4, 3) := by decide +kernel
theorem dX3_isStronger_57 : decode cX3_isStronger 57 = .ok (.iconst 0, 1) := by decide +kernel
theorem dX3_isStronger_58 : decode cX3_isStronger 58 = .ok (.ireturn, 1) := by decide +kernel
theorem dX3_takeAs_0 : decode cX3_takeAs 0 = .ok (.aload_n 1, 1) := by decide +kernel
theorem dX3_takeAs_1 : decode cX3_takeAs 1 = .ok (.getfield 9, 3) := by decide +kernel
theorem dX3_takeAs_4 : decode cX3_takeAs 4 = .ok (.aload_n 0, 1) := by decide +kernel
theorem dX3_takeAs_5 : decode cX3_takeAs 5 = .ok (.getfield 9, 3) := by decide +kernel
theorem dX3_takeAs_8 : decode cX3_takeAs 8 = .ok (.invokestatic 41, 3) := by decide +kernel
theorem dX3_takeAs_11 : decode cX3_takeAs 11 = .ok (.aload_n 1, 1) := by decide +kernel
theorem dX3_takeAs_12 : decode cX3_takeAs 12 = .ok (.getfield 15, 3) := by decide +kernel
theorem dX3_takeAs_15 : decode cX3_takeAs 15 = .ok (.aload_n 0, 1) := by decide +kernel
theorem dX3_takeAs_16 : decode cX3_takeAs 16 = .ok (.getfield 15, 3) := by decide +kernel
theorem dX3_takeAs_19 : decode cX3_takeAs 19 = .ok (.invokestatic 41, 3) := by decide +kernel
theorem dX3_takeAs_22 : decode cX3_takeAs 22 = .ok (.aload_n 1, 1) := by decide +kernel
theorem dX3_takeAs_23 : decode cX3_takeAs 23 = .ok (.getfield 18, 3) := by decide +kernel
theorem dX3_takeAs_26 : decode cX3_takeAs 26 = .ok (.aload_n 0, 1) := by decide +kernel
theorem dX3_takeAs_27 : decode cX3_takeAs 27 = .ok (.getfield 18, 3) := by decide +kernel
theorem dX3_takeAs_30 : decode cX3_takeAs 30 = .ok (.invokestatic 41, 3) := by decide +kernel
theorem dX3_takeAs_33 : decode cX3_takeAs 33 = .ok (.aload_n 0, 1) := by decide +kernel
theorem dX3_takeAs_34 : decode cX3_takeAs 34 = .ok (.aload_n 1, 1) := by decide +kernel
theorem dX3_takeAs_35 : decode cX3_takeAs 35 = .ok (.getfield 21, 3) := by decide +kernel
theorem dX3_takeAs_38 : decode cX3_takeAs 38 = .ok (.putfield 21, 3) := by decide +kernel
theorem dX3_takeAs_41 : decode cX3_takeAs 41 = .ok (.return_, 1) := by decide +kernel
theorem dX4_init_0 : decode cX4_init 0 = .ok (.aload_n 0, 1) := by decide +kernel
theorem dX4_init_1 : decode cX4_init 1 = .ok (.invokespecial 3, 3) := by decide +kernel
theorem dX4_init_4 : decode cX4_init 4 = .ok (.aload_n 0, 1) := by decide +kernel
theorem dX4_init_5 : decode cX4_init 5 = .ok (.bipush 96, 2) := by decide +kernel
theorem dX4_init_7 : decode cX4_init 7 = .ok (.newarray .int, 2) := by decide +kernel
theorem dX4_init_9 : decode cX4_init 9 = .ok (.putfield 9, 3) := by decide +kernel
theorem dX4_init_12 : decode cX4_init 12 = .ok (.aload_n 0, 1) := by decide +kernel
theorem dX4_init_13 : decode cX4_init 13 = .ok (.iconst 0, 1) := by decide +kernel
theorem dX4_init_14 : decode cX4_init 14 = .ok (.putfield 15, 3) := by decide +kernel
theorem dX4_init_17 : decode cX4_init 17 = .ok (.return_, 1) := by decide +kernel
theorem dX4_isFull_0 : decode cX4_isFull 0 = .ok (.aload_n 0, 1) := by decide +kernel
theorem dX4_isFull_1 : decode cX4_isFull 1 = .ok (.getfield 15, 3) := by decide +kernel
theorem dX4_isFull_4 : decode cX4_isFull 4 = .ok (.bipush 96, 2) := by decide +kernel
theorem dX4_isFull_6 : decode cX4_isFull 6 = .ok (.if_icmp .lt 7, 3) := by decide +kernel
theorem dX4_isFull_9 : decode cX4_isFull 9 = .ok (.iconst 1, 1) := by decide +kernel
theorem dX4_isFull_10 : decode cX4_isFull 10 = .ok (.goto 4, 3) := by decide +kernel
theorem dX4_isFull_13 : decode cX4_isFull 13 = .ok (.iconst 0, 1) := by decide +kernel
theorem dX4_isFull_14 : decode cX4_isFull 14 = .ok (.ireturn, 1) := by decide +kernel
theorem dX4_add_0 : decode cX4_add 0 = .ok (.aload_n 0, 1) := by decide +kernel
theorem dX4_add_1 : decode cX4_add 1 = .ok (.getfield 9, 3) := by decide +kernel
theorem dX4_add_4 : decode cX4_add 4 = .ok (.aload_n 0, 1) := by decide +kernel
theorem dX4_add_5 : decode cX4_add 5 = .ok (.getfield 15, 3) := by decide +kernel
theorem dX4_add_8 : decode cX4_add 8 = .ok (.iload_n 1, 1) := by decide +kernel
theorem dX4_add_9 : decode cX4_add 9 = .ok (.invokestatic 19, 3) := by decide +kernel
theorem dX4_add_12 : decode cX4_add 12 = .ok (.aload_n 0, 1) := by decide +kernel
theorem dX4_add_13 : decode cX4_add 13 = .ok (.dup, 1) := by decide +kernel
theorem dX4_add_14 : decode cX4_add 14 = .ok (.getfield 15, 3) := by decide +kernel
theorem dX4_add_17 : decode cX4_add 17 = .ok (.iconst 1, 1) := by decide +kernel
theorem dX4_add_18 : decode cX4_add 18 = .ok (.iadd, 1) := by decide +kernel
theorem dX4_add_19 : decode cX4_add 19 = .ok (.putfield 15, 3) := by decide +kernel
theorem dX4_add_22 : decode cX4_add 22 = .ok (.return_, 1) := by decide +kernel
theorem dX4_sign_0 : decode cX4_sign 0 = .ok (.iload_n 1, 1) := by decide +kernel
theorem dX4_sign_1 : decode cX4_sign 1 = .ok (.ifCond .lt 22, 3) := by decide +kernel
theorem dX4_sign_4 : decode cX4_sign 4 = .ok (.iload_n 1, 1) := by decide +kernel
theorem dX4_sign_5 : decode cX4_sign 5 = .ok (.aload_n 0, 1) := by decide +kernel
theorem dX4_sign_6 : decode cX4_sign 6 = .ok (.getfield 15, 3) := by decide +kernel
theorem dX4_sign_9 : decode cX4_sign 9 = .ok (.if_icmp .ge 14, 3) := by decide +kernel
theorem dX4_sign_12 : decode cX4_sign 12 = .ok (.aload_n 0, 1) := by decide +kernel
theorem dX4_sign_13 : decode cX4_sign 13 = .ok (.getfield 9, 3) := by decide +kernel
theorem dX4_sign_16 : decode cX4_sign 16 = .ok (.iload_n 1, 1) := by decide +kernel
theorem dX4_sign_17 : decode cX4_sign 17 = .ok (.invokestatic 23, 3) := by decide +kernel
theorem dX4_sign_20 : decode cX4_sign 20 = .ok (.goto 4, 3) := by decide +kernel
theorem dX4_sign_23 : decode cX4_sign 23 = .ok (.iconst (-1), 1) := by decide +kernel
theorem dX4_sign_24 : decode cX4_sign 24 = .ok (.ireturn, 1) := by decide +kernel
theorem dX4_digit_0 : decode cX4_digit 0 = .ok (.aload_n 0, 1) := by decide +kernel
theorem dX4_digit_1 : decode cX4_digit 1 = .ok (.iload_n 1, 1) := by decide +kernel
theorem dX4_digit_2 : decode cX4_digit 2 = .ok (.invokevirtual 27, 3) := by decide +kernel
theorem dX4_digit_5 : decode cX4_digit 5 = .ok (.istore_n 2, 1) := by decide +kernel
theorem dX4_digit_6 : decode cX4_digit 6 = .ok (.iload_n 2, 1) := by decide +kernel
theorem dX4_digit_7 : decode cX4_digit 7 = .ok (.bipush 48, 2) := by decide +kernel
theorem dX4_digit_9 : decode cX4_digit 9 = .ok (.if_icmp .lt 16, 3) := by decide +kernel
theorem dX4_digit_12 : decode cX4_digit 12 = .ok (.iload_n 2, 1) := by decide +kernel
theorem dX4_digit_13 : decode cX4_digit 13 = .ok (.bipush 57, 2) := by decide +kernel
theorem dX4_digit_15 : decode cX4_digit 15 = .ok (.if_icmp .gt 10, 3) := by decide +kernel
theorem dX4_digit_18 : decode cX4_digit 18 = .ok (.iload_n 2, 1) := by decide +kernel
theorem dX4_digit_19 : decode cX4_digit 19 = .ok (.bipush 48, 2) := by decide +kernel
theorem dX4_digit_21 : decode cX4_digit 21 = .ok (.isub, 1) := by decide +kernel
theorem dX4_digit_22 : decode cX4_digit 22 = .ok (.goto 5, 3) := by decide +kernel
theorem dX4_digit_25 : decode cX4_digit 25 = .ok (.bipush (-9), 2) := by decide +kernel
theorem dX4_digit_27 : decode cX4_digit 27 = .ok (.ireturn, 1) := by decide +kernel
theorem dX4_isDigit_0 : decode cX4_isDigit 0 = .ok (.aload_n 0, 1) := by decide +kernel
theorem dX4_isDigit_1 : decode cX4_isDigit 1 = .ok (.iload_n 1, 1) := by decide +kernel
theorem dX4_isDigit_2 : decode cX4_isDigit 2 = .ok (.invokevirtual 31, 3) := by decide +kernel
theorem dX4_isDigit_5 : decode cX4_isDigit 5 = .ok (.bipush (-9), 2) := by decide +kernel
theorem dX4_isDigit_7 : decode cX4_isDigit 7 = .ok (.if_icmp .eq 7, 3) := by decide +kernel
theorem dX4_isDigit_10 : decode cX4_isDigit 10 = .ok (.iconst 1, 1) := by decide +kernel
theorem dX4_isDigit_11 : decode cX4_isDigit 11 = .ok (.goto 4, 3) := by decide +kernel
theorem dX4_isDigit_14 : decode cX4_isDigit 14 = .ok (.iconst 0, 1) := by decide +kernel
theorem dX4_isDigit_15 : decode cX4_isDigit 15 = .ok (.ireturn, 1) := by decide +kernel
theorem dX4_value_0 : decode cX4_value 0 = .ok (.aload_n 0, 1) := by decide +kernel
theorem dX4_value_1 : decode cX4_value 1 = .ok (.iload_n 1, 1) := by decide +kernel
theorem dX4_value_2 : decode cX4_value 2 = .ok (.invokevirtual 31, 3) := by decide +kernel
theorem dX4_value_5 : decode cX4_value 5 = .ok (.istore_n 2, 1) := by decide +kernel
theorem dX4_value_6 : decode cX4_value 6 = .ok (.aload_n 0, 1) := by decide +kernel
theorem dX4_value_7 : decode cX4_value 7 = .ok (.iload_n 1, 1) := by decide +kernel
theorem dX4_value_8 : decode cX4_value 8 = .ok (.iconst 1, 1) := by decide +kernel
theorem dX4_value_9 : decode cX4_value 9 = .ok (.iadd, 1) := by decide +kernel
theorem dX4_value_10 : decode cX4_value 10 = .ok (.invokevirtual 31, 3) := by decide +kernel
theorem dX4_value_13 : decode cX4_value 13 = .ok (.istore_n 3, 1) := by decide +kernel
theorem dX4_value_14 : decode cX4_value 14 = .ok (.iload_n 3, 1) := by decide +kernel
theorem dX4_value_15 : decode cX4_value 15 = .ok (.bipush (-9), 2) := by decide +kernel
theorem dX4_value_17 : decode cX4_value 17 = .ok (.if_icmp .ne 7, 3) := by decide +kernel
theorem dX4_value_20 : decode cX4_value 20 = .ok (.iload_n 2, 1) := by decide +kernel
theorem dX4_value_21 : decode cX4_value 21 = .ok (.goto 9, 3) := by decide +kernel
theorem dX4_value_24 : decode cX4_value 24 = .ok (.bipush 10, 2) := by decide +kernel
theorem dX4_value_26 : decode cX4_value 26 = .ok (.iload_n 2, 1) := by decide +kernel
theorem dX4_value_27 : decode cX4_value 27 = .ok (.imul, 1) := by decide +kernel
theorem dX4_value_28 : decode cX4_value 28 = .ok (.iload_n 3, 1) := by decide +kernel
theorem dX4_value_29 : decode cX4_value 29 = .ok (.iadd, 1) := by decide +kernel
theorem dX4_value_30 : decode cX4_value 30 = .ok (.ireturn, 1) := by decide +kernel
theorem dX4_kind_0 : decode cX4_kind 0 = .ok (.aload_n 0, 1) := by decide +kernel
theorem dX4_kind_1 : decode cX4_kind 1 = .ok (.iload_n 1, 1) := by decide +kernel
theorem dX4_kind_2 : decode cX4_kind 2 = .ok (.iconst 1, 1) := by decide +kernel
theorem dX4_kind_3 : decode cX4_kind 3 = .ok (.iadd, 1) := by decide +kernel
theorem dX4_kind_4 : decode cX4_kind 4 = .ok (.invokevirtual 27, 3) := by decide +kernel
theorem dX4_kind_7 : decode cX4_kind 7 = .ok (.istore_n 2, 1) := by decide +kernel
theorem dX4_kind_8 : decode cX4_kind 8 = .ok (.iload_n 2, 1) := by decide +kernel
theorem dX4_kind_9 : decode cX4_kind 9 = .ok (.ifCond .ge 5, 3) := by decide +kernel
theorem dX4_kind_12 : decode cX4_kind 12 = .ok (.iconst (-1), 1) := by decide +kernel
theorem dX4_kind_13 : decode cX4_kind 13 = .ok (.ireturn, 1) := by decide +kernel
theorem dX4_kind_14 : decode cX4_kind 14 = .ok (.aload_n 0, 1) := by decide +kernel
theorem dX4_kind_15 : decode cX4_kind 15 = .ok (.iload_n 1, 1) := by decide +kernel
theorem dX4_kind_16 : decode cX4_kind 16 = .ok (.invokevirtual 27, 3) := by decide +kernel
theorem dX4_kind_19 : decode cX4_kind 19 = .ok (.bipush 115, 2) := by decide +kernel
theorem dX4_kind_21 : decode cX4_kind 21 = .ok (.if_icmp .ne 8, 3) := by decide +kernel
theorem dX4_kind_24 : decode cX4_kind 24 = .ok (.ldc 34, 2) := by decide +kernel
theorem dX4_kind_26 : decode cX4_kind 26 = .ok (.goto 5, 3) := by decide +kernel
theorem dX4_kind_29 : decode cX4_kind 29 = .ok (.ldc 36, 2) := by decide +kernel
theorem dX4_kind_31 : decode cX4_kind 31 = .ok (.iload_n 2, 1) := by decide +kernel
theorem dX4_kind_32 : decode cX4_kind 32 = .ok (.i2c, 1) := by decide +kernel
theorem dX4_kind_33 : decode cX4_kind 33 = .ok (.invokevirtual 38, 3) := by decide +kernel
theorem dX4_kind_36 : decode cX4_kind 36 = .ok (.ireturn, 1) := by decide +kernel
theorem dX4_faultPlace_0 : decode cX4_faultPlace 0 = .ok (.iconst 0, 1) := by decide +kernel
theorem dX4_faultPlace_1 : decode cX4_faultPlace 1 = .ok (.istore_n 1, 1) := by decide +kernel
theorem dX4_faultPlace_2 : decode cX4_faultPlace 2 = .ok (.iconst 0, 1) := by decide +kernel
theorem dX4_faultPlace_3 : decode cX4_faultPlace 3 = .ok (.istore_n 2, 1) := by decide +kernel
theorem dX4_faultPlace_4 : decode cX4_faultPlace 4 = .ok (.iload_n 2, 1) := by decide +kernel
theorem dX4_faultPlace_5 : decode cX4_faultPlace 5 = .ok (.bipush 96, 2) := by decide +kernel
theorem dX4_faultPlace_7 : decode cX4_faultPlace 7 = .ok (.if_icmp .gt 34, 3) := by decide +kernel
theorem dX4_faultPlace_10 : decode cX4_faultPlace 10 = .ok (.aload_n 0, 1) := by decide +kernel
theorem dX4_faultPlace_11 : decode cX4_faultPlace 11 = .ok (.iload_n 1, 1) := by decide +kernel
theorem dX4_faultPlace_12 : decode cX4_faultPlace 12 = .ok (.invokevirtual 43, 3) := by decide +kernel
theorem dX4_faultPlace_15 : decode cX4_faultPlace 15 = .ok (.istore_n 1, 1) := by decide +kernel
theorem dX4_faultPlace_16 : decode cX4_faultPlace 16 = .ok (.iload_n 1, 1) := by decide +kernel
theorem dX4_faultPlace_17 : decode cX4_faultPlace 17 = .ok (.ifCond .ge 7, 3) := by decide +kernel
theorem dX4_faultPlace_20 : decode cX4_faultPlace 20 = .ok (.iconst (-1), 1) := by decide +kernel
theorem dX4_faultPlace_21 : decode cX4_faultPlace 21 = .ok (.iload_n 1, 1) := by decide +kernel
theorem dX4_faultPlace_22 : decode cX4_faultPlace 22 = .ok (.isub, 1) := by decide +kernel
theorem dX4_faultPlace_23 : decode cX4_faultPlace 23 = .ok (.ireturn, 1) := by decide +kernel
theorem dX4_faultPlace_24 : decode cX4_faultPlace 24 = .ok (.iload_n 1, 1) := by decide +kernel
theorem dX4_faultPlace_25 : decode cX4_faultPlace 25 = .ok (.aload_n 0, 1) := by decide +kernel
theorem dX4_faultPlace_26 : decode cX4_faultPlace 26 = .ok (.getfield 15, 3) := by decide +kernel
theorem dX4_faultPlace_29 : decode cX4_faultPlace 29 = .ok (.if_icmp .lt 6, 3) := by decide +kernel
theorem dX4_faultPlace_32 : decode cX4_faultPlace 32 = .ok (.bipush (-9), 2) := by decide +kernel
theorem dX4_faultPlace_34 : decode cX4_faultPlace 34 = .ok (.ireturn, 1) := by decide +kernel
theorem dX4_faultPlace_35 : decode cX4_faultPlace 35 = .ok (.iinc 2 1, 3) := by decide +kernel
theorem dX4_faultPlace_38 : decode cX4_faultPlace 38 = .ok (.goto (-34), 3) := by decide +kernel
theorem dX4_faultPlace_41 : decode cX4_faultPlace 41 = .ok (.bipush (-9), 2) := by decide +kernel
theorem dX4_faultPlace_43 : decode cX4_faultPlace 43 = .ok (.ireturn, 1) := by decide +kernel
theorem dX4_behindStatement_0 : decode cX4_behindStatement 0 = .ok (.iload_n 1, 1) := by decide +kernel
theorem dX4_behindStatement_1 : decode cX4_behindStatement 1 = .ok (.iconst 1, 1) := by decide +kernel
theorem dX4_behindStatement_2 : decode cX4_behindStatement 2 = .ok (.iadd, 1) := by decide +kernel
theorem dX4_behindStatement_3 : decode cX4_behindStatement 3 = .ok (.istore_n 2, 1) := by decide +kernel
theorem dX4_behindStatement_4 : decode cX4_behindStatement 4 = .ok (.iconst 2, 1) := by decide +kernel
theorem dX4_behindStatement_5 : decode cX4_behindStatement 5 = .ok (.istore_n 3, 1) := by decide +kernel
theorem dX4_behindStatement_6 : decode cX4_behindStatement 6 = .ok (.aload_n 0, 1) := by decide +kernel
theorem dX4_behindStatement_7 : decode cX4_behindStatement 7 = .ok (.iload_n 1, 1) := by decide +kernel
theorem dX4_behindStatement_8 : decode cX4_behindStatement 8 = .ok (.invokevirtual 27, 3) := by decide +kernel
theorem dX4_behindStatement_11 : decode cX4_behindStatement 11 = .ok (.lookupswitch 75 #[(100, 49), (103, 49), (104, 52), (111, 70), (115, 52)], 49) := by decide +kernel
theorem dX4_behindStatement_60 : decode cX4_behindStatement 60 = .ok (.goto 30, 3) := by decide +kernel
theorem dX4_behindStatement_63 : decode cX4_behindStatement 63 = .ok (.aload_n 0, 1) := by decide +kernel
theorem dX4_behindStatement_64 : decode cX4_behindStatement 64 = .ok (.iload_n 1, 1) := by decide +kernel
theorem dX4_behindStatement_65 : decode cX4_behindStatement 65 = .ok (.invokevirtual 46, 3) := by decide +kernel
theorem dX4_behindStatement_68 : decode cX4_behindStatement 68 = .ok (.ifCond .ge 7, 3) := by decide +kernel
theorem dX4_behindStatement_71 : decode cX4_behindStatement 71 = .ok (.iconst (-1), 1) := by decide +kernel
theorem dX4_behindStatement_72 : decode cX4_behindStatement 72 = .ok (.iload_n 2, 1) := by decide +kernel
theorem dX4_behindStatement_73 : decode cX4_behindStatement 73 = .ok (.isub, 1) := by decide +kernel
theorem dX4_behindStatement_74 : decode cX4_behindStatement 74 = .ok (.ireturn, 1) := by decide +kernel
theorem dX4_behindStatement_75 : decode cX4_behindStatement 75 = .ok (.iinc 2 1, 3) := by decide +kernel
theorem dX4_behindStatement_78 : decode cX4_behindStatement 78 = .ok (.goto 12, 3) := by decide +kernel
theorem dX4_behindStatement_81 : decode cX4_behindStatement 81 = .ok (.iconst 1, 1) := by decide +kernel
theorem dX4_behindStatement_82 : decode cX4_behindStatement 82 = .ok (.istore_n 3, 1) := by decide +kernel
theorem dX4_behindStatement_83 : decode cX4_behindStatement 83 = .ok (.goto 7, 3) := by decide +kernel
theorem dX4_behindStatement_86 : decode cX4_behindStatement 86 = .ok (.iconst (-1), 1) := by decide +kernel
theorem dX4_behindStatement_87 : decode cX4_behindStatement 87 = .ok (.iload_n 1, 1) := by decide +kernel
theorem dX4_behindStatement_88 : decode cX4_behindStatement 88 = .ok (.isub, 1) := by decide +kernel
theorem dX4_behindStatement_89 : decode cX4_behindStatement 89 = .ok (.ireturn, 1) := by decide +kernel
theorem dX4_behindStatement_90 : decode cX4_behindStatement 90 = .ok (.iconst 0, 1) := by decide +kernel
theorem dX4_behindStatement_91 : decode cX4_behindStatement 91 = .ok (.istore 4, 2) := by decide +kernel
theorem dX4_behindStatement_93 : decode cX4_behindStatement 93 = .ok (.iload 4, 2) := by decide +kernel
theorem dX4_behindStatement_95 : decode cX4_behindStatement 95 = .ok (.iconst 2, 1) := by decide +kernel
theorem dX4_behindStatement_96 : decode cX4_behindStatement 96 = .ok (.if_icmp .ge 20, 3) := by decide +kernel
theorem dX4_behindStatement_99 : decode cX4_behindStatement 99 = .ok (.aload_n 0, 1) := by decide +kernel
theorem dX4_behindStatement_100 : decode cX4_behindStatement 100 = .ok (.iload_n 2, 1) := by decide +kernel
theorem dX4_behindStatement_101 : decode cX4_behindStatement 101 = .ok (.invokevirtual 49, 3) := by decide +kernel
theorem dX4_behindStatement_104 : decode cX4_behindStatement 104 = .ok (.ifCond .eq 12, 3) := by decide +kernel
theorem dX4_behindStatement_107 : decode cX4_behindStatement 107 = .ok (.iinc 4 1, 3) := by decide +kernel
theorem dX4_behindStatement_110 : decode cX4_behindStatement 110 = .ok (.iinc 2 1, 3) := by decide +kernel
theorem dX4_behindStatement_113 : decode cX4_behindStatement 113 = .ok (.goto (-20), 3) := by decide +kernel
theorem dX4_behindStatement_116 : decode cX4_behindStatement 116 = .ok (.iload 4, 2) := by decide +kernel
theorem dX4_behindStatement_118 : decode cX4_behindStatement 118 = .ok (.iload_n 3, 1) := by decide +kernel
theorem dX4_behindStatement_119 : decode cX4_behindStatement 119 = .ok (.if_icmp .lt 19, 3) := by decide +kernel
theorem dX4_behindStatement_122 : decode cX4_behindStatement 122 = .ok (.aload_n 0, 1) := by decide +kernel
theorem dX4_behindStatement_123 : decode cX4_behindStatement 123 = .ok (.iload_n 2, 1) := by decide +kernel
theorem dX4_behindStatement_124 : decode cX4_behindStatement 124 = .ok (.invokevirtual 27, 3) := by decide +kernel
theorem dX4_behindStatement_127 : decode cX4_behindStatement 127 = .ok (.bipush 59, 2) := by decide +kernel
theorem dX4_behindStatement_129 : decode cX4_behindStatement 129 = .ok (.if_icmp .ne 9, 3) := by decide +kernel
theorem dX4_behindStatement_132 : decode cX4_behindStatement 132 = .ok (.iload_n 2, 1) := by decide +kernel
theorem dX4_behindStatement_133 : decode cX4_behindStatement 133 = .ok (.iconst 1, 1) := by decide +kernel
theorem dX4_behindStatement_134 : decode cX4_behindStatement 134 = .ok (.iadd, 1) := by decide +kernel
theorem dX4_behindStatement_135 : decode cX4_behindStatement 135 = .ok (.goto 6, 3) := by decide +kernel
theorem dX4_behindStatement_138 : decode cX4_behindStatement 138 = .ok (.iconst (-1), 1) := by decide +kernel
theorem dX4_behindStatement_139 : decode cX4_behindStatement 139 = .ok (.iload_n 2, 1) := by decide +kernel
theorem dX4_behindStatement_140 : decode cX4_behindStatement 140 = .ok (.isub, 1) := by decide +kernel
theorem dX4_behindStatement_141 : decode cX4_behindStatement 141 = .ok (.ireturn, 1) := by decide +kernel
theorem dX5_init_0 : decode cX5_init 0 = .ok (.aload_n 0, 1) := by decide +kernel
theorem dX5_init_1 : decode cX5_init 1 = .ok (.invokespecial 1, 3) := by decide +kernel
theorem dX5_init_4 : decode cX5_init 4 = .ok (.aload_n 0, 1) := by decide +kernel
theorem dX5_init_5 : decode cX5_init 5 = .ok (.new 7, 3) := by decide +kernel
theorem dX5_init_8 : decode cX5_init 8 = .ok (.dup, 1) := by decide +kernel
theorem dX5_init_9 : decode cX5_init 9 = .ok (.invokespecial 9, 3) := by decide +kernel
theorem dX5_init_12 : decode cX5_init 12 = .ok (.putfield 10, 3) := by decide +kernel
theorem dX5_init_15 : decode cX5_init 15 = .ok (.aload_n 0, 1) := by decide +kernel
theorem dX5_init_16 : decode cX5_init 16 = .ok (.new 7, 3) := by decide +kernel
theorem dX5_init_19 : decode cX5_init 19 = .ok (.dup, 1) := by decide +kernel
theorem dX5_init_20 : decode cX5_init 20 = .ok (.invokespecial 9, 3) := by decide +kernel
theorem dX5_init_23 : decode cX5_init 23 = .ok (.putfield 16, 3) := by decide +kernel
theorem dX5_init_26 : decode cX5_init 26 = .ok (.aload_n 0, 1) := by decide +kernel
theorem dX5_init_27 : decode cX5_init 27 = .ok (.new 7, 3) := by decide +kernel
theorem dX5_init_30 : decode cX5_init 30 = .ok (.dup, 1) := by decide +kernel
theorem dX5_init_31 : decode cX5_init 31 = .ok (.invokespecial 9, 3) := by decide +kernel
theorem dX5_init_34 : decode cX5_init 34 = .ok (.putfield 19, 3) := by decide +kernel
theorem dX5_init_37 : decode cX5_init 37 = .ok (.aload_n 0, 1) := by decide +kernel
theorem dX5_init_38 : decode cX5_init 38 = .ok (.iconst 0, 1) := by decide +kernel
theorem dX5_init_39 : decode cX5_init 39 = .ok (.putfield 22, 3) := by decide +kernel
theorem dX5_init_42 : decode cX5_init 42 = .ok (.aload_n 0, 1) := by decide +kernel
theorem dX5_init_43 : decode cX5_init 43 = .ok (.new 26, 3) := by decide +kernel
theorem dX5_init_46 : decode cX5_init 46 = .ok (.dup, 1) := by decide +kernel
theorem dX5_init_47 : decode cX5_init 47 = .ok (.invokespecial 28, 3) := by decide +kernel
theorem dX5_init_50 : decode cX5_init 50 = .ok (.putfield 29, 3) := by decide +kernel
theorem dX5_init_53 : decode cX5_init 53 = .ok (.aload_n 0, 1) := by decide +kernel
theorem dX5_init_54 : decode cX5_init 54 = .ok (.bipush 6, 2) := by decide +kernel
theorem dX5_init_56 : decode cX5_init 56 = .ok (.newarray .int, 2) := by decide +kernel
theorem dX5_init_58 : decode cX5_init 58 = .ok (.putfield 33, 3) := by decide +kernel
theorem dX5_init_61 : decode cX5_init 61 = .ok (.aload_n 0, 1) := by decide +kernel
theorem dX5_init_62 : decode cX5_init 62 = .ok (.iconst 0, 1) := by decide +kernel
theorem dX5_init_63 : decode cX5_init 63 = .ok (.putfield 37, 3) := by decide +kernel
theorem dX5_init_66 : decode cX5_init 66 = .ok (.aload_n 0, 1) := by decide +kernel
theorem dX5_init_67 : decode cX5_init 67 = .ok (.bipush 7, 2) := by decide +kernel
theorem dX5_init_69 : decode cX5_init 69 = .ok (.newarray .int, 2) := by decide +kernel
theorem dX5_init_71 : decode cX5_init 71 = .ok (.putfield 41, 3) := by decide +kernel
theorem dX5_init_74 : decode cX5_init 74 = .ok (.return_, 1) := by decide +kernel
theorem dX5_letter_0 : decode cX5_letter 0 = .ok (.iload_n 1, 1) := by decide +kernel
theorem dX5_letter_1 : decode cX5_letter 1 = .ok (.iconst 0, 1) := by decide +kernel
theorem dX5_letter_2 : decode cX5_letter 2 = .ok (.sipush 255, 3) := by decide +kernel
theorem dX5_letter_5 : decode cX5_letter 5 = .ok (.invokestatic 44, 3) := by decide +kernel
theorem dX5_letter_8 : decode cX5_letter 8 = .ok (.istore_n 2, 1) := by decide +kernel
theorem dX5_letter_9 : decode cX5_letter 9 = .ok (.iload_n 2, 1) := by decide +kernel
theorem dX5_letter_10 : decode cX5_letter 10 = .ok (.ifCond .eq 9, 3) := by decide +kernel
theorem dX5_letter_13 : decode cX5_letter 13 = .ok (.aload_n 0, 1) := by decide +kernel
theorem dX5_letter_14 : decode cX5_letter 14 = .ok (.iload_n 2, 1) := by decide +kernel
theorem dX5_letter_15 : decode cX5_letter 15 = .ok (.invokevirtual 48, 3) := by decide +kernel
theorem dX5_letter_18 : decode cX5_letter 18 = .ok (.ireturn, 1) := by decide +kernel
theorem dX5_letter_19 : decode cX5_letter 19 = .ok (.aload_n 0, 1) := by decide +kernel
theorem dX5_letter_20 : decode cX5_letter 20 = .ok (.getfield 29, 3) := by decide +kernel
theorem dX5_letter_23 : decode cX5_letter 23 = .ok (.invokevirtual 52, 3) := by decide +kernel
theorem dX5_letter_26 : decode cX5_letter 26 = .ok (.ifCond .eq 10, 3) := by decide +kernel
theorem dX5_letter_29 : decode cX5_letter 29 = .ok (.aload_n 0, 1) := by decide +kernel
theorem dX5_letter_30 : decode cX5_letter 30 = .ok (.bipush (-6), 2) := by decide +kernel
theorem dX5_letter_32 : decode cX5_letter 32 = .ok (.invokevirtual 48, 3) := by decide +kernel
theorem dX5_letter_35 : decode cX5_letter 35 = .ok (.ireturn, 1) := by decide +kernel
theorem dX5_letter_36 : decode cX5_letter 36 = .ok (.aload_n 0, 1) := by decide +kernel
theorem dX5_letter_37 : decode cX5_letter 37 = .ok (.getfield 29, 3) := by decide +kernel
theorem dX5_letter_40 : decode cX5_letter 40 = .ok (.iload_n 1, 1) := by decide +kernel
theorem dX5_letter_41 : decode cX5_letter 41 = .ok (.invokevirtual 56, 3) := by decide +kernel
theorem dX5_letter_44 : decode cX5_letter 44 = .ok (.aload_n 0, 1) := by decide +kernel
theorem dX5_letter_45 : decode cX5_letter 45 = .ok (.getfield 29, 3) := by decide +kernel
theorem dX5_letter_48 : decode cX5_letter 48 = .ok (.getfield 60, 3) := by decide +kernel
theorem dX5_letter_51 : decode cX5_letter 51 = .ok (.ireturn, 1) := by decide +kernel
theorem dX5_office_0 : decode cX5_office 0 = .ok (.aload_n 0, 1) := by decide +kernel
theorem dX5_office_1 : decode cX5_office 1 = .ok (.getfield 29, 3) := by decide +kernel
theorem dX5_office_4 : decode cX5_office 4 = .ok (.invokevirtual 63, 3) := by decide +kernel
theorem dX5_office_7 : decode cX5_office 7 = .ok (.istore_n 1, 1) := by decide +kernel
theorem dX5_office_8 : decode cX5_office 8 = .ok (.iload_n 1, 1) := by decide +kernel
theorem dX5_office_9 : decode cX5_office 9 = .ok (.bipush (-9), 2) := by decide +kernel
theorem dX5_office_11 : decode cX5_office 11 = .ok (.if_icmp .ne 10, 3) := by decide +kernel
theorem dX5_office_14 : decode cX5_office 14 = .ok (.aload_n 0, 1) := by decide +kernel
theorem dX5_office_15 : decode cX5_office 15 = .ok (.invokevirtual 67, 3) := by decide +kernel
theorem dX5_office_18 : decode cX5_office 18 = .ok (.goto 8, 3) := by decide +kernel
theorem dX5_office_21 : decode cX5_office 21 = .ok (.sipush (-1000), 3) := by decide +kernel
theorem dX5_office_24 : decode cX5_office 24 = .ok (.iload_n 1, 1) := by decide +kernel
theorem dX5_office_25 : decode cX5_office 25 = .ok (.isub, 1) := by decide +kernel
theorem dX5_office_26 : decode cX5_office 26 = .ok (.istore_n 2, 1) := by decide +kernel
theorem dX5_office_27 : decode cX5_office 27 = .ok (.aload_n 0, 1) := by decide +kernel
theorem dX5_office_28 : decode cX5_office 28 = .ok (.getfield 29, 3) := by decide +kernel
theorem dX5_office_31 : decode cX5_office 31 = .ok (.iconst 0, 1) := by decide +kernel
theorem dX5_office_32 : decode cX5_office 32 = .ok (.putfield 60, 3) := by decide +kernel
theorem dX5_office_35 : decode cX5_office 35 = .ok (.iload_n 2, 1) := by decide +kernel
theorem dX5_office_36 : decode cX5_office 36 = .ok (.ireturn, 1) := by decide +kernel
theorem dX5_song_0 : decode cX5_song 0 = .ok (.aload_n 0, 1) := by decide +kernel
theorem dX5_song_1 : decode cX5_song 1 = .ok (.getfield 10, 3) := by decide +kernel
theorem dX5_song_4 : decode cX5_song 4 = .ok (.getfield 70, 3) := by decide +kernel
theorem dX5_song_7 : decode cX5_song 7 = .ok (.iload_n 1, 1) := by decide +kernel
theorem dX5_song_8 : decode cX5_song 8 = .ok (.invokevirtual 74, 3) := by decide +kernel
theorem dX5_song_11 : decode cX5_song 11 = .ok (.ifCond .ne 9, 3) := by decide +kernel
theorem dX5_song_14 : decode cX5_song 14 = .ok (.aload_n 0, 1) := by decide +kernel
theorem dX5_song_15 : decode cX5_song 15 = .ok (.iconst (-1), 1) := by decide +kernel
theorem dX5_song_16 : decode cX5_song 16 = .ok (.invokevirtual 48, 3) := by decide +kernel
theorem dX5_song_19 : decode cX5_song 19 = .ok (.ireturn, 1) := by decide +kernel
theorem dX5_song_20 : decode cX5_song 20 = .ok (.iload_n 2, 1) := by decide +kernel
theorem dX5_song_21 : decode cX5_song 21 = .ok (.tableswitch 104 0 4 #[35, 50, 65, 80, 92], 35) := by decide +kernel
theorem dX5_song_56 : decode cX5_song 56 = .ok (.aload_n 0, 1) := by decide +kernel
theorem dX5_song_57 : decode cX5_song 57 = .ok (.getfield 10, 3) := by decide +kernel
theorem dX5_song_60 : decode cX5_song 60 = .ok (.getfield 70, 3) := by decide +kernel
theorem dX5_song_63 : decode cX5_song 63 = .ok (.getfield 80, 3) := by decide +kernel
theorem dX5_song_66 : decode cX5_song 66 = .ok (.iload_n 1, 1) := by decide +kernel
theorem dX5_song_67 : decode cX5_song 67 = .ok (.invokestatic 83, 3) := by decide +kernel
theorem dX5_song_70 : decode cX5_song 70 = .ok (.ireturn, 1) := by decide +kernel
theorem dX5_song_71 : decode cX5_song 71 = .ok (.aload_n 0, 1) := by decide +kernel
theorem dX5_song_72 : decode cX5_song 72 = .ok (.getfield 10, 3) := by decide +kernel
theorem dX5_song_75 : decode cX5_song 75 = .ok (.getfield 70, 3) := by decide +kernel
theorem dX5_song_78 : decode cX5_song 78 = .ok (.getfield 87, 3) := by decide +kernel
theorem dX5_song_81 : decode cX5_song 81 = .ok (.iload_n 1, 1) := by decide +kernel
theorem dX5_song_82 : decode cX5_song 82 = .ok (.invokestatic 83, 3) := by decide +kernel
theorem dX5_song_85 : decode cX5_song 85 = .ok (.ireturn, 1) := by decide +kernel
theorem dX5_song_86 : decode cX5_song 86 = .ok (.aload_n 0, 1) := by decide +kernel
theorem dX5_song_87 : decode cX5_song 87 = .ok (.getfield 10, 3) := by decide +kernel
theorem dX5_song_90 : decode cX5_song 90 = .ok (.getfield 70, 3) := by decide +kernel
theorem dX5_song_93 : decode cX5_song 93 = .ok (.getfield 90, 3) := by decide +kernel
theorem dX5_song_96 : decode cX5_song 96 = .ok (.iload_n 1, 1) := by decide +kernel
theorem dX5_song_97 : decode cX5_song 97 = .ok (.invokestatic 83, 3) := by decide +kernel
theorem dX5_song_100 : decode cX5_song 100 = .ok (.ireturn, 1) := by decide +kernel
theorem dX5_song_101 : decode cX5_song 101 = .ok (.aload_n 0, 1) := by decide +kernel
theorem dX5_song_102 : decode cX5_song 102 = .ok (.getfield 10, 3) := by decide +kernel
theorem dX5_song_105 : decode cX5_song 105 = .ok (.getfield 70, 3) := by decide +kernel
theorem dX5_song_108 : decode cX5_song 108 = .ok (.iload_n 1, 1) := by decide +kernel
theorem dX5_song_109 : decode cX5_song 109 = .ok (.invokevirtual 93, 3) := by decide +kernel
theorem dX5_song_112 : decode cX5_song 112 = .ok (.ireturn, 1) := by decide +kernel
theorem dX5_song_113 : decode cX5_song 113 = .ok (.aload_n 0, 1) := by decide +kernel
theorem dX5_song_114 : decode cX5_song 114 = .ok (.getfield 10, 3) := by decide +kernel
theorem dX5_song_117 : decode cX5_song 117 = .ok (.getfield 96, 3) := by decide +kernel
theorem dX5_song_120 : decode cX5_song 120 = .ok (.iload_n 1, 1) := by decide +kernel
theorem dX5_song_121 : decode cX5_song 121 = .ok (.invokevirtual 100, 3) := by decide +kernel
theorem dX5_song_124 : decode cX5_song 124 = .ok (.ireturn, 1) := by decide +kernel
theorem dX5_song_125 : decode cX5_song 125 = .ok (.aload_n 0, 1) := by decide +kernel
theorem dX5_song_126 : decode cX5_song 126 = .ok (.bipush (-2), 2) := by decide +kernel
theorem dX5_song_128 : decode cX5_song 128 = .ok (.invokevirtual 48, 3) := by decide +kernel
theorem dX5_song_131 : decode cX5_song 131 = .ok (.ireturn, 1) := by decide +kernel
theorem dX5_head_0 : decode cX5_head 0 = .ok (.aload_n 0, 1) := by decide +kernel
theorem dX5_head_1 : decode cX5_head 1 = .ok (.getfield 10, 3) := by decide +kernel
theorem dX5_head_4 : decode cX5_head 4 = .ok (.getfield 96, 3) := by decide +kernel
theorem dX5_head_7 : decode cX5_head 7 = .ok (.iload_n 1, 1) := by decide +kernel
theorem dX5_head_8 : decode cX5_head 8 = .ok (.invokevirtual 105, 3) := by decide +kernel
theorem dX5_head_11 : decode cX5_head 11 = .ok (.ifCond .ne 9, 3) := by decide +kernel
theorem dX5_head_14 : decode cX5_head 14 = .ok (.aload_n 0, 1) := by decide +kernel
theorem dX5_head_15 : decode cX5_head 15 = .ok (.iconst (-1), 1) := by decide +kernel
theorem dX5_head_16 : decode cX5_head 16 = .ok (.invokevirtual 48, 3) := by decide +kernel
theorem dX5_head_19 : decode cX5_head 19 = .ok (.ireturn, 1) := by decide +kernel
theorem dX5_head_20 : decode cX5_head 20 = .ok (.iload_n 2, 1) := by decide +kernel
theorem dX5_head_21 : decode cX5_head 21 = .ok (.tableswitch 183 0 7 #[47, 62, 77, 92, 107, 122, 137, 149], 47) := by decide +kernel
theorem dX5_head_68 : decode cX5_head 68 = .ok (.aload_n 0, 1) := by decide +kernel
theorem dX5_head_69 : decode cX5_head 69 = .ok (.getfield 10, 3) := by decide +kernel
theorem dX5_head_72 : decode cX5_head 72 = .ok (.getfield 96, 3) := by decide +kernel
theorem dX5_head_75 : decode cX5_head 75 = .ok (.getfield 106, 3) := by decide +kernel
theorem dX5_head_78 : decode cX5_head 78 = .ok (.iload_n 1, 1) := by decide +kernel
theorem dX5_head_79 : decode cX5_head 79 = .ok (.invokestatic 83, 3) := by decide +kernel
theorem dX5_head_82 : decode cX5_head 82 = .ok (.ireturn, 1) := by decide +kernel
theorem dX5_head_83 : decode cX5_head 83 = .ok (.aload_n 0, 1) := by decide +kernel
theorem dX5_head_84 : decode cX5_head 84 = .ok (.getfield 10, 3) := by decide +kernel
theorem dX5_head_87 : decode cX5_head 87 = .ok (.getfield 96, 3) := by decide +kernel
theorem dX5_head_90 : decode cX5_head 90 = .ok (.getfield 107, 3) := by decide +kernel
theorem dX5_head_93 : decode cX5_head 93 = .ok (.iload_n 1, 1) := by decide +kernel
theorem dX5_head_94 : decode cX5_head 94 = .ok (.invokestatic 83, 3) := by decide +kernel
theorem dX5_head_97 : decode cX5_head 97 = .ok (.ireturn, 1) := by decide +kernel
theorem dX5_head_98 : decode cX5_head 98 = .ok (.aload_n 0, 1) := by decide +kernel
theorem dX5_head_99 : decode cX5_head 99 = .ok (.getfield 10, 3) := by decide +kernel
theorem dX5_head_102 : decode cX5_head 102 = .ok (.getfield 96, 3) := by decide +kernel
theorem dX5_head_105 : decode cX5_head 105 = .ok (.getfield 110, 3) := by decide +kernel
theorem dX5_head_108 : decode cX5_head 108 = .ok (.iload_n 1, 1) := by decide +kernel
theorem dX5_head_109 : decode cX5_head 109 = .ok (.invokestatic 83, 3) := by decide +kernel
theorem dX5_head_112 : decode cX5_head 112 = .ok (.ireturn, 1) := by decide +kernel
theorem dX5_head_113 : decode cX5_head 113 = .ok (.aload_n 0, 1) := by decide +kernel
theorem dX5_head_114 : decode cX5_head 114 = .ok (.getfield 10, 3) := by decide +kernel
theorem dX5_head_117 : decode cX5_head 117 = .ok (.getfield 96, 3) := by decide +kernel
theorem dX5_head_120 : decode cX5_head 120 = .ok (.getfield 113, 3) := by decide +kernel
theorem dX5_head_123 : decode cX5_head 123 = .ok (.iload_n 1, 1) := by decide +kernel
theorem dX5_head_124 : decode cX5_head 124 = .ok (.invokestatic 83, 3) := by decide +kernel
theorem dX5_head_127 : decode cX5_head 127 = .ok (.ireturn, 1) := by decide +kernel
theorem dX5_head_128 : decode cX5_head 128 = .ok (.aload_n 0, 1) := by decide +kernel
theorem dX5_head_129 : decode cX5_head 129 = .ok (.getfield 10, 3) := by decide +kernel
theorem dX5_head_132 : decode cX5_head 132 = .ok (.getfield 96, 3) := by decide +kernel
theorem dX5_head_135 : decode cX5_head 135 = .ok (.getfield 116, 3) := by decide +kernel
theorem dX5_head_138 : decode cX5_head 138 = .ok (.iload_n 1, 1) := by decide +kernel
theorem dX5_head_139 : decode cX5_head 139 = .ok (.invokestatic 83, 3) := by decide +kernel
theorem dX5_head_142 : decode cX5_head 142 = .ok (.ireturn, 1) := by decide +kernel
theorem dX5_head_143 : decode cX5_head 143 = .ok (.aload_n 0, 1) := by decide +kernel
theorem dX5_head_144 : decode cX5_head 144 = .ok (.getfield 10, 3) := by decide +kernel
theorem dX5_head_147 : decode cX5_head 147 = .ok (.getfield 96, 3) := by decide +kernel
theorem dX5_head_150 : decode cX5_head 150 = .ok (.getfield 119, 3) := by decide +kernel
theorem dX5_head_153 : decode cX5_head 153 = .ok (.iload_n 1, 1) := by decide +kernel
theorem dX5_head_154 : decode cX5_head 154 = .ok (.invokestatic 83, 3) := by decide +kernel
theorem dX5_head_157 : decode cX5_head 157 = .ok (.ireturn, 1) := by decide +kernel
theorem dX5_head_158 : decode cX5_head 158 = .ok (.aload_n 0, 1) := by decide +kernel
theorem dX5_head_159 : decode cX5_head 159 = .ok (.getfield 10, 3) := by decide +kernel
theorem dX5_head_162 : decode cX5_head 162 = .ok (.getfield 96, 3) := by decide +kernel
theorem dX5_head_165 : decode cX5_head 165 = .ok (.iload_n 1, 1) := by decide +kernel
theorem dX5_head_166 : decode cX5_head 166 = .ok (.invokevirtual 122, 3) := by decide +kernel
theorem dX5_head_169 : decode cX5_head 169 = .ok (.ireturn, 1) := by decide +kernel
theorem dX5_head_170 : decode cX5_head 170 = .ok (.aload_n 0, 1) := by decide +kernel
theorem dX5_head_171 : decode cX5_head 171 = .ok (.getfield 10, 3) := by decide +kernel
theorem dX5_head_174 : decode cX5_head 174 = .ok (.getfield 96, 3) := by decide +kernel
theorem dX5_head_177 : decode cX5_head 177 = .ok (.iload_n 1, 1) := by decide +kernel
theorem dX5_head_178 : decode cX5_head 178 = .ok (.aload_n 0, 1) := by decide +kernel
theorem dX5_head_179 : decode cX5_head 179 = .ok (.getfield 10, 3) := by decide +kernel
theorem dX5_head_182 : decode cX5_head 182 = .ok (.getfield 125, 3) := by decide +kernel
theorem dX5_head_185 : decode cX5_head 185 = .ok (.aload_n 0, 1) := by decide +kernel
theorem dX5_head_186 : decode cX5_head 186 = .ok (.getfield 10, 3) := by decide +kernel
theorem dX5_head_189 : decode cX5_head 189 = .ok (.getfield 128, 3) := by decide +kernel
theorem dX5_head_192 : decode cX5_head 192 = .ok (.invokevirtual 131, 3) := by decide +kernel
theorem dX5_head_195 : decode cX5_head 195 = .ok (.ifCond .eq 7, 3) := by decide +kernel
theorem dX5_head_198 : decode cX5_head 198 = .ok (.iconst 1, 1) := by decide +kernel
theorem dX5_head_199 : decode cX5_head 199 = .ok (.goto 4, 3) := by decide +kernel
theorem dX5_head_202 : decode cX5_head 202 = .ok (.iconst 0, 1) := by decide +kernel
theorem dX5_head_203 : decode cX5_head 203 = .ok (.ireturn, 1) := by decide +kernel
theorem dX5_head_204 : decode cX5_head 204 = .ok (.aload_n 0, 1) := by decide +kernel
theorem dX5_head_205 : decode cX5_head 205 = .ok (.bipush (-2), 2) := by decide +kernel
theorem dX5_head_207 : decode cX5_head 207 = .ok (.invokevirtual 48, 3) := by decide +kernel
theorem dX5_head_210 : decode cX5_head 210 = .ok (.ireturn, 1) := by decide +kernel
theorem dX5_near_0 : decode cX5_near 0 = .ok (.aload_n 0, 1) := by decide +kernel
theorem dX5_near_1 : decode cX5_near 1 = .ok (.getfield 10, 3) := by decide +kernel
theorem dX5_near_4 : decode cX5_near 4 = .ok (.getfield 96, 3) := by decide +kernel
theorem dX5_near_7 : decode cX5_near 7 = .ok (.iload_n 1, 1) := by decide +kernel
theorem dX5_near_8 : decode cX5_near 8 = .ok (.invokevirtual 105, 3) := by decide +kernel
theorem dX5_near_11 : decode cX5_near 11 = .ok (.ifCond .ne 9, 3) := by decide +kernel
theorem dX5_near_14 : decode cX5_near 14 = .ok (.aload_n 0, 1) := by decide +kernel
theorem dX5_near_15 : decode cX5_near 15 = .ok (.iconst (-1), 1) := by decide +kernel
theorem dX5_near_16 : decode cX5_near 16 = .ok (.invokevirtual 48, 3) := by decide +kernel
theorem dX5_near_19 : decode cX5_near 19 = .ok (.ireturn, 1) := by decide +kernel
theorem dX5_near_20 : decode cX5_near 20 = .ok (.aload_n 0, 1) := by decide +kernel
theorem dX5_near_21 : decode cX5_near 21 = .ok (.getfield 10, 3) := by decide +kernel
theorem dX5_near_24 : decode cX5_near 24 = .ok (.iload_n 1, 1) := by decide +kernel
theorem dX5_near_25 : decode cX5_near 25 = .ok (.invokevirtual 135, 3) := by decide +kernel
theorem dX5_near_28 : decode cX5_near 28 = .ok (.ireturn, 1) := by decide +kernel
theorem dX5_door_0 : decode cX5_door 0 = .ok (.aload_n 0, 1) := by decide +kernel
theorem dX5_door_1 : decode cX5_door 1 = .ok (.getfield 10, 3) := by decide +kernel
theorem dX5_door_4 : decode cX5_door 4 = .ok (.getfield 138, 3) := by decide +kernel
theorem dX5_door_7 : decode cX5_door 7 = .ok (.iload_n 1, 1) := by decide +kernel
theorem dX5_door_8 : decode cX5_door 8 = .ok (.invokevirtual 142, 3) := by decide +kernel
theorem dX5_door_11 : decode cX5_door 11 = .ok (.ifCond .ne 9, 3) := by decide +kernel
theorem dX5_door_14 : decode cX5_door 14 = .ok (.aload_n 0, 1) := by decide +kernel
theorem dX5_door_15 : decode cX5_door 15 = .ok (.iconst (-1), 1) := by decide +kernel
theorem dX5_door_16 : decode cX5_door 16 = .ok (.invokevirtual 48, 3) := by decide +kernel
theorem dX5_door_19 : decode cX5_door 19 = .ok (.ireturn, 1) := by decide +kernel
theorem dX5_door_20 : decode cX5_door 20 = .ok (.aload_n 0, 1) := by decide +kernel
theorem dX5_door_21 : decode cX5_door 21 = .ok (.getfield 10, 3) := by decide +kernel
theorem dX5_door_24 : decode cX5_door 24 = .ok (.getfield 138, 3) := by decide +kernel
theorem dX5_door_27 : decode cX5_door 27 = .ok (.iload_n 1, 1) := by decide +kernel
theorem dX5_door_28 : decode cX5_door 28 = .ok (.invokevirtual 145, 3) := by decide +kernel
theorem dX5_door_31 : decode cX5_door 31 = .ok (.ireturn, 1) := by decide +kernel
theorem dX5_go_0 : decode cX5_go 0 = .ok (.aload_n 0, 1) := by decide +kernel
theorem dX5_go_1 : decode cX5_go 1 = .ok (.getfield 10, 3) := by decide +kernel
theorem dX5_go_4 : decode cX5_go 4 = .ok (.getfield 96, 3) := by decide +kernel
theorem dX5_go_7 : decode cX5_go 7 = .ok (.iload_n 1, 1) := by decide +kernel
theorem dX5_go_8 : decode cX5_go 8 = .ok (.invokevirtual 105, 3) := by decide +kernel
theorem dX5_go_11 : decode cX5_go 11 = .ok (.ifCond .eq 10, 3) := by decide +kernel
theorem dX5_go_14 : decode cX5_go 14 = .ok (.iload_n 2, 1) := by decide +kernel
theorem dX5_go_15 : decode cX5_go 15 = .ok (.invokestatic 148, 3) := by decide +kernel
theorem dX5_go_18 : decode cX5_go 18 = .ok (.ifCond .ne 9, 3) := by decide +kernel
theorem dX5_go_21 : decode cX5_go 21 = .ok (.aload_n 0, 1) := by decide +kernel
theorem dX5_go_22 : decode cX5_go 22 = .ok (.iconst (-1), 1) := by decide +kernel
theorem dX5_go_23 : decode cX5_go 23 = .ok (.invokevirtual 48, 3) := by decide +kernel
theorem dX5_go_26 : decode cX5_go 26 = .ok (.ireturn, 1) := by decide +kernel
theorem dX5_go_27 : decode cX5_go 27 = .ok (.aload_n 0, 1) := by decide +kernel
theorem dX5_go_28 : decode cX5_go 28 = .ok (.getfield 10, 3) := by decide +kernel
theorem dX5_go_31 : decode cX5_go 31 = .ok (.getfield 96, 3) := by decide +kernel
theorem dX5_go_34 : decode cX5_go 34 = .ok (.getfield 107, 3) := by decide +kernel
theorem dX5_go_37 : decode cX5_go 37 = .ok (.iload_n 1, 1) := by decide +kernel
theorem dX5_go_38 : decode cX5_go 38 = .ok (.invokestatic 83, 3) := by decide +kernel
theorem dX5_go_41 : decode cX5_go 41 = .ok (.istore_n 3, 1) := by decide +kernel
theorem dX5_go_42 : decode cX5_go 42 = .ok (.aload_n 0, 1) := by decide +kernel
theorem dX5_go_43 : decode cX5_go 43 = .ok (.getfield 10, 3) := by decide +kernel
theorem dX5_go_46 : decode cX5_go 46 = .ok (.getfield 96, 3) := by decide +kernel
theorem dX5_go_49 : decode cX5_go 49 = .ok (.getfield 107, 3) := by decide +kernel
theorem dX5_go_52 : decode cX5_go 52 = .ok (.iload_n 1, 1) := by decide +kernel
theorem dX5_go_53 : decode cX5_go 53 = .ok (.iload_n 2, 1) := by decide +kernel
theorem dX5_go_54 : decode cX5_go 54 = .ok (.invokestatic 151, 3) := by decide +kernel
theorem dX5_go_57 : decode cX5_go 57 = .ok (.iload_n 3, 1) := by decide +kernel
theorem dX5_go_58 : decode cX5_go 58 = .ok (.ireturn, 1) := by decide +kernel
theorem dX5_get_0 : decode cX5_get 0 = .ok (.aload_n 0, 1) := by decide +kernel
theorem dX5_get_1 : decode cX5_get 1 = .ok (.getfield 10, 3) := by decide +kernel
theorem dX5_get_4 : decode cX5_get 4 = .ok (.getfield 96, 3) := by decide +kernel
theorem dX5_get_7 : decode cX5_get 7 = .ok (.iload_n 1, 1) := by decide +kernel
theorem dX5_get_8 : decode cX5_get 8 = .ok (.invokevirtual 105, 3) := by decide +kernel
theorem dX5_get_11 : decode cX5_get 11 = .ok (.ifCond .eq 22, 3) := by decide +kernel
theorem dX5_get_14 : decode cX5_get 14 = .ok (.iload_n 2, 1) := by decide +kernel
theorem dX5_get_15 : decode cX5_get 15 = .ok (.iconst (-1), 1) := by decide +kernel
theorem dX5_get_16 : decode cX5_get 16 = .ok (.if_icmp .eq 23, 3) := by decide +kernel
theorem dX5_get_19 : decode cX5_get 19 = .ok (.aload_n 0, 1) := by decide +kernel
theorem dX5_get_20 : decode cX5_get 20 = .ok (.getfield 10, 3) := by decide +kernel
theorem dX5_get_23 : decode cX5_get 23 = .ok (.getfield 70, 3) := by decide +kernel
theorem dX5_get_26 : decode cX5_get 26 = .ok (.iload_n 2, 1) := by decide +kernel
theorem dX5_get_27 : decode cX5_get 27 = .ok (.invokevirtual 74, 3) := by decide +kernel
theorem dX5_get_30 : decode cX5_get 30 = .ok (.ifCond .ne 9, 3) := by decide +kernel
theorem dX5_get_33 : decode cX5_get 33 = .ok (.aload_n 0, 1) := by decide +kernel
theorem dX5_get_34 : decode cX5_get 34 = .ok (.iconst (-1), 1) := by decide +kernel
theorem dX5_get_35 : decode cX5_get 35 = .ok (.invokevirtual 48, 3) := by decide +kernel
theorem dX5_get_38 : decode cX5_get 38 = .ok (.ireturn, 1) := by decide +kernel
theorem dX5_get_39 : decode cX5_get 39 = .ok (.aload_n 0, 1) := by decide +kernel
theorem dX5_get_40 : decode cX5_get 40 = .ok (.getfield 10, 3) := by decide +kernel
theorem dX5_get_43 : decode cX5_get 43 = .ok (.getfield 96, 3) := by decide +kernel
theorem dX5_get_46 : decode cX5_get 46 = .ok (.getfield 113, 3) := by decide +kernel
theorem dX5_get_49 : decode cX5_get 49 = .ok (.iload_n 1, 1) := by decide +kernel
theorem dX5_get_50 : decode cX5_get 50 = .ok (.invokestatic 83, 3) := by decide +kernel
theorem dX5_get_53 : decode cX5_get 53 = .ok (.istore_n 3, 1) := by decide +kernel
theorem dX5_get_54 : decode cX5_get 54 = .ok (.aload_n 0, 1) := by decide +kernel
theorem dX5_get_55 : decode cX5_get 55 = .ok (.getfield 10, 3) := by decide +kernel
theorem dX5_get_58 : decode cX5_get 58 = .ok (.iload_n 1, 1) := by decide +kernel
theorem dX5_get_59 : decode cX5_get 59 = .ok (.iload_n 2, 1) := by decide +kernel
theorem dX5_get_60 : decode cX5_get 60 = .ok (.invokevirtual 155, 3) := by decide +kernel
theorem dX5_get_63 : decode cX5_get 63 = .ok (.iload_n 3, 1) := by decide +kernel
theorem dX5_get_64 : decode cX5_get 64 = .ok (.ireturn, 1) := by decide +kernel
theorem dX5_remedy_0 : decode cX5_remedy 0 = .ok (.aload_n 0, 1) := by decide +kernel
theorem dX5_remedy_1 : decode cX5_remedy 1 = .ok (.getfield 10, 3) := by decide +kernel
theorem dX5_remedy_4 : decode cX5_remedy 4 = .ok (.getfield 96, 3) := by decide +kernel
theorem dX5_remedy_7 : decode cX5_remedy 7 = .ok (.iload_n 1, 1) := by decide +kernel
theorem dX5_remedy_8 : decode cX5_remedy 8 = .ok (.invokevirtual 105, 3) := by decide +kernel
theorem dX5_remedy_11 : decode cX5_remedy 11 = .ok (.ifCond .ne 9, 3) := by decide +kernel
theorem dX5_remedy_14 : decode cX5_remedy 14 = .ok (.aload_n 0, 1) := by decide +kernel
theorem dX5_remedy_15 : decode cX5_remedy 15 = .ok (.iconst (-1), 1) := by decide +kernel
theorem dX5_remedy_16 : decode cX5_remedy 16 = .ok (.invokevirtual 48, 3) := by decide +kernel
theorem dX5_remedy_19 : decode cX5_remedy 19 = .ok (.ireturn, 1) := by decide +kernel
theorem dX5_remedy_20 : decode cX5_remedy 20 = .ok (.iload_n 2, 1) := by decide +kernel
theorem dX5_remedy_21 : decode cX5_remedy 21 = .ok (.ifCond .lt 8, 3) := by decide +kernel
theorem dX5_remedy_24 : decode cX5_remedy 24 = .ok (.iload_n 2, 1) := by decide +kernel
theorem dX5_remedy_25 : decode cX5_remedy 25 = .ok (.iconst 3, 1) := by decide +kernel
theorem dX5_remedy_26 : decode cX5_remedy 26 = .ok (.if_icmp .lt 10, 3) := by decide +kernel
theorem dX5_remedy_29 : decode cX5_remedy 29 = .ok (.aload_n 0, 1) := by decide +kernel
theorem dX5_remedy_30 : decode cX5_remedy 30 = .ok (.bipush (-2), 2) := by decide +kernel
theorem dX5_remedy_32 : decode cX5_remedy 32 = .ok (.invokevirtual 48, 3) := by decide +kernel
theorem dX5_remedy_35 : decode cX5_remedy 35 = .ok (.ireturn, 1) := by decide +kernel
theorem dX5_remedy_36 : decode cX5_remedy 36 = .ok (.iload_n 2, 1) := by decide +kernel
theorem dX5_remedy_37 : decode cX5_remedy 37 = .ok (.iconst 2, 1) := by decide +kernel
theorem dX5_remedy_38 : decode cX5_remedy 38 = .ok (.if_icmp .eq 24, 3) := by decide +kernel
theorem dX5_remedy_41 : decode cX5_remedy 41 = .ok (.aload_n 0, 1) := by decide +kernel
theorem dX5_remedy_42 : decode cX5_remedy 42 = .ok (.getfield 10, 3) := by decide +kernel
theorem dX5_remedy_45 : decode cX5_remedy 45 = .ok (.getfield 96, 3) := by decide +kernel
theorem dX5_remedy_48 : decode cX5_remedy 48 = .ok (.iload_n 1, 1) := by decide +kernel
theorem dX5_remedy_49 : decode cX5_remedy 49 = .ok (.invokevirtual 159, 3) := by decide +kernel
theorem dX5_remedy_52 : decode cX5_remedy 52 = .ok (.ifCond .ne 10, 3) := by decide +kernel
theorem dX5_remedy_55 : decode cX5_remedy 55 = .ok (.aload_n 0, 1) := by decide +kernel
theorem dX5_remedy_56 : decode cX5_remedy 56 = .ok (.bipush (-3), 2) := by decide +kernel
theorem dX5_remedy_58 : decode cX5_remedy 58 = .ok (.invokevirtual 48, 3) := by decide +kernel
theorem dX5_remedy_61 : decode cX5_remedy 61 = .ok (.ireturn, 1) := by decide +kernel
theorem dX5_remedy_62 : decode cX5_remedy 62 = .ok (.aload_n 0, 1) := by decide +kernel
theorem dX5_remedy_63 : decode cX5_remedy 63 = .ok (.getfield 10, 3) := by decide +kernel
theorem dX5_remedy_66 : decode cX5_remedy 66 = .ok (.getfield 96, 3) := by decide +kernel
theorem dX5_remedy_69 : decode cX5_remedy 69 = .ok (.iload_n 1, 1) := by decide +kernel
theorem dX5_remedy_70 : decode cX5_remedy 70 = .ok (.iload_n 2, 1) := by decide +kernel
theorem dX5_remedy_71 : decode cX5_remedy 71 = .ok (.invokevirtual 162, 3) := by decide +kernel
theorem dX5_remedy_74 : decode cX5_remedy 74 = .ok (.aload_n 0, 1) := by decide +kernel
theorem dX5_remedy_75 : decode cX5_remedy 75 = .ok (.getfield 10, 3) := by decide +kernel
theorem dX5_remedy_78 : decode cX5_remedy 78 = .ok (.getfield 96, 3) := by decide +kernel
theorem dX5_remedy_81 : decode cX5_remedy 81 = .ok (.getfield 116, 3) := by decide +kernel
theorem dX5_remedy_84 : decode cX5_remedy 84 = .ok (.iload_n 1, 1) := by decide +kernel
theorem dX5_remedy_85 : decode cX5_remedy 85 = .ok (.invokestatic 83, 3) := by decide +kernel
theorem dX5_remedy_88 : decode cX5_remedy 88 = .ok (.ireturn, 1) := by decide +kernel
theorem dX5_loud_0 : decode cX5_loud 0 = .ok (.iload_n 1, 1) := by decide +kernel
theorem dX5_loud_1 : decode cX5_loud 1 = .ok (.iconst 1, 1) := by decide +kernel
theorem dX5_loud_2 : decode cX5_loud 2 = .ok (.bipush 20, 2) := by decide +kernel
theorem dX5_loud_4 : decode cX5_loud 4 = .ok (.invokestatic 44, 3) := by decide +kernel
theorem dX5_loud_7 : decode cX5_loud 7 = .ok (.istore_n 2, 1) := by decide +kernel
theorem dX5_loud_8 : decode cX5_loud 8 = .ok (.iload_n 2, 1) := by decide +kernel
theorem dX5_loud_9 : decode cX5_loud 9 = .ok (.ifCond .eq 9, 3) := by decide +kernel
theorem dX5_loud_12 : decode cX5_loud 12 = .ok (.aload_n 0, 1) := by decide +kernel
theorem dX5_loud_13 : decode cX5_loud 13 = .ok (.iload_n 2, 1) := by decide +kernel
theorem dX5_loud_14 : decode cX5_loud 14 = .ok (.invokevirtual 48, 3) := by decide +kernel
theorem dX5_loud_17 : decode cX5_loud 17 = .ok (.ireturn, 1) := by decide +kernel
theorem dX5_loud_18 : decode cX5_loud 18 = .ok (.aload_n 0, 1) := by decide +kernel
theorem dX5_loud_19 : decode cX5_loud 19 = .ok (.getfield 10, 3) := by decide +kernel
theorem dX5_loud_22 : decode cX5_loud 22 = .ok (.getfield 125, 3) := by decide +kernel
theorem dX5_loud_25 : decode cX5_loud 25 = .ok (.istore_n 3, 1) := by decide +kernel
theorem dX5_loud_26 : decode cX5_loud 26 = .ok (.aload_n 0, 1) := by decide +kernel
theorem dX5_loud_27 : decode cX5_loud 27 = .ok (.getfield 10, 3) := by decide +kernel
theorem dX5_loud_30 : decode cX5_loud 30 = .ok (.iload_n 1, 1) := by decide +kernel
theorem dX5_loud_31 : decode cX5_loud 31 = .ok (.putfield 125, 3) := by decide +kernel
theorem dX5_loud_34 : decode cX5_loud 34 = .ok (.iload_n 3, 1) := by decide +kernel
theorem dX5_loud_35 : decode cX5_loud 35 = .ok (.ireturn, 1) := by decide +kernel
theorem dX5_hour_0 : decode cX5_hour 0 = .ok (.aload_n 0, 1) := by decide +kernel
theorem dX5_hour_1 : decode cX5_hour 1 = .ok (.getfield 10, 3) := by decide +kernel
theorem dX5_hour_4 : decode cX5_hour 4 = .ok (.getfield 128, 3) := by decide +kernel
theorem dX5_hour_7 : decode cX5_hour 7 = .ok (.sipush 999, 3) := by decide +kernel
theorem dX5_hour_10 : decode cX5_hour 10 = .ok (.if_icmp .lt 10, 3) := by decide +kernel
theorem dX5_hour_13 : decode cX5_hour 13 = .ok (.aload_n 0, 1) := by decide +kernel
theorem dX5_hour_14 : decode cX5_hour 14 = .ok (.bipush (-6), 2) := by decide +kernel
theorem dX5_hour_16 : decode cX5_hour 16 = .ok (.invokevirtual 48, 3) := by decide +kernel
theorem dX5_hour_19 : decode cX5_hour 19 = .ok (.ireturn, 1) := by decide +kernel
theorem dX5_hour_20 : decode cX5_hour 20 = .ok (.aload_n 0, 1) := by decide +kernel
theorem dX5_hour_21 : decode cX5_hour 21 = .ok (.getfield 10, 3) := by decide +kernel
theorem dX5_hour_24 : decode cX5_hour 24 = .ok (.invokevirtual 165, 3) := by decide +kernel
theorem dX5_hour_27 : decode cX5_hour 27 = .ok (.ireturn, 1) := by decide +kernel
theorem dX5_hold_0 : decode cX5_hold 0 = .ok (.aload_n 0, 1) := by decide +kernel
theorem dX5_hold_1 : decode cX5_hold 1 = .ok (.iload_n 1, 1) := by decide +kernel
theorem dX5_hold_2 : decode cX5_hold 2 = .ok (.iload_n 2, 1) := by decide +kernel
theorem dX5_hold_3 : decode cX5_hold 3 = .ok (.invokevirtual 168, 3) := by decide +kernel
theorem dX5_hold_6 : decode cX5_hold 6 = .ok (.istore 4, 2) := by decide +kernel
theorem dX5_hold_8 : decode cX5_hold 8 = .ok (.iload 4, 2) := by decide +kernel
theorem dX5_hold_10 : decode cX5_hold 10 = .ok (.ifCond .ne 14, 3) := by decide +kernel
theorem dX5_hold_13 : decode cX5_hold 13 = .ok (.iload_n 3, 1) := by decide +kernel
theorem dX5_hold_14 : decode cX5_hold 14 = .ok (.invokestatic 172, 3) := by decide +kernel
theorem dX5_hold_17 : decode cX5_hold 17 = .ok (.ifCond .eq 7, 3) := by decide +kernel
theorem dX5_hold_20 : decode cX5_hold 20 = .ok (.bipush (-2), 2) := by decide +kernel
theorem dX5_hold_22 : decode cX5_hold 22 = .ok (.istore 4, 2) := by decide +kernel
theorem dX5_hold_24 : decode cX5_hold 24 = .ok (.iload 4, 2) := by decide +kernel
theorem dX5_hold_26 : decode cX5_hold 26 = .ok (.ifCond .eq 10, 3) := by decide +kernel
theorem dX5_hold_29 : decode cX5_hold 29 = .ok (.aload_n 0, 1) := by decide +kernel
theorem dX5_hold_30 : decode cX5_hold 30 = .ok (.iload 4, 2) := by decide +kernel
theorem dX5_hold_32 : decode cX5_hold 32 = .ok (.invokevirtual 48, 3) := by decide +kernel
theorem dX5_hold_35 : decode cX5_hold 35 = .ok (.ireturn, 1) := by decide +kernel
theorem dX5_hold_36 : decode cX5_hold 36 = .ok (.aload_n 0, 1) := by decide +kernel
theorem dX5_hold_37 : decode cX5_hold 37 = .ok (.iload_n 2, 1) := by decide +kernel
theorem dX5_hold_38 : decode cX5_hold 38 = .ok (.invokevirtual 175, 3) := by decide +kernel
theorem dX5_hold_41 : decode cX5_hold 41 = .ok (.iload_n 3, 1) := by decide +kernel
theorem dX5_hold_42 : decode cX5_hold 42 = .ok (.ifCond .ne 20, 3) := by decide +kernel
theorem dX5_hold_45 : decode cX5_hold 45 = .ok (.aload_n 0, 1) := by decide +kernel
theorem dX5_hold_46 : decode cX5_hold 46 = .ok (.getfield 16, 3) := by decide +kernel
theorem dX5_hold_49 : decode cX5_hold 49 = .ok (.getfield 96, 3) := by decide +kernel
theorem dX5_hold_52 : decode cX5_hold 52 = .ok (.getfield 113, 3) := by decide +kernel
theorem dX5_hold_55 : decode cX5_hold 55 = .ok (.iload_n 1, 1) := by decide +kernel
theorem dX5_hold_56 : decode cX5_hold 56 = .ok (.invokestatic 83, 3) := by decide +kernel
theorem dX5_hold_59 : decode cX5_hold 59 = .ok (.goto 17, 3) := by decide +kernel
theorem dX5_hold_62 : decode cX5_hold 62 = .ok (.aload_n 0, 1) := by decide +kernel
theorem dX5_hold_63 : decode cX5_hold 63 = .ok (.getfield 16, 3) := by decide +kernel
theorem dX5_hold_66 : decode cX5_hold 66 = .ok (.getfield 96, 3) := by decide +kernel
theorem dX5_hold_69 : decode cX5_hold 69 = .ok (.getfield 116, 3) := by decide +kernel
theorem dX5_hold_72 : decode cX5_hold 72 = .ok (.iload_n 1, 1) := by decide +kernel
theorem dX5_hold_73 : decode cX5_hold 73 = .ok (.invokestatic 83, 3) := by decide +kernel
theorem dX5_hold_76 : decode cX5_hold 76 = .ok (.ireturn, 1) := by decide +kernel
theorem dX5_have_0 : decode cX5_have 0 = .ok (.aload_n 0, 1) := by decide +kernel
theorem dX5_have_1 : decode cX5_have 1 = .ok (.iload_n 1, 1) := by decide +kernel
theorem dX5_have_2 : decode cX5_have 2 = .ok (.iload_n 2, 1) := by decide +kernel
theorem dX5_have_3 : decode cX5_have 3 = .ok (.invokevirtual 178, 3) := by decide +kernel
theorem dX5_have_6 : decode cX5_have 6 = .ok (.istore_n 3, 1) := by decide +kernel
theorem dX5_have_7 : decode cX5_have 7 = .ok (.iload_n 3, 1) := by decide +kernel
theorem dX5_have_8 : decode cX5_have 8 = .ok (.ifCond .eq 9, 3) := by decide +kernel
theorem dX5_have_11 : decode cX5_have 11 = .ok (.aload_n 0, 1) := by decide +kernel
theorem dX5_have_12 : decode cX5_have 12 = .ok (.iload_n 3, 1) := by decide +kernel
theorem dX5_have_13 : decode cX5_have 13 = .ok (.invokevirtual 48, 3) := by decide +kernel
theorem dX5_have_16 : decode cX5_have 16 = .ok (.ireturn, 1) := by decide +kernel
theorem dX5_have_17 : decode cX5_have 17 = .ok (.aload_n 0, 1) := by decide +kernel
theorem dX5_have_18 : decode cX5_have 18 = .ok (.iload_n 2, 1) := by decide +kernel
theorem dX5_have_19 : decode cX5_have 19 = .ok (.invokevirtual 175, 3) := by decide +kernel
theorem dX5_have_22 : decode cX5_have 22 = .ok (.aload_n 0, 1) := by decide +kernel
theorem dX5_have_23 : decode cX5_have 23 = .ok (.getfield 16, 3) := by decide +kernel
theorem dX5_have_26 : decode cX5_have 26 = .ok (.getfield 96, 3) := by decide +kernel
theorem dX5_have_29 : decode cX5_have 29 = .ok (.iload_n 1, 1) := by decide +kernel
theorem dX5_have_30 : decode cX5_have 30 = .ok (.invokevirtual 100, 3) := by decide +kernel
theorem dX5_have_33 : decode cX5_have 33 = .ok (.ireturn, 1) := by decide +kernel
theorem dX5_takes_0 : decode cX5_takes 0 = .ok (.aload_n 0, 1) := by decide +kernel
theorem dX5_takes_1 : decode cX5_takes 1 = .ok (.getfield 10, 3) := by decide +kernel
theorem dX5_takes_4 : decode cX5_takes 4 = .ok (.getfield 96, 3) := by decide +kernel
theorem dX5_takes_7 : decode cX5_takes 7 = .ok (.iload_n 1, 1) := by decide +kernel
theorem dX5_takes_8 : decode cX5_takes 8 = .ok (.invokevirtual 105, 3) := by decide +kernel
theorem dX5_takes_11 : decode cX5_takes 11 = .ok (.ifCond .eq 17, 3) := by decide +kernel
theorem dX5_takes_14 : decode cX5_takes 14 = .ok (.aload_n 0, 1) := by decide +kernel
theorem dX5_takes_15 : decode cX5_takes 15 = .ok (.getfield 10, 3) := by decide +kernel
theorem dX5_takes_18 : decode cX5_takes 18 = .ok (.getfield 70, 3) := by decide +kernel
theorem dX5_takes_21 : decode cX5_takes 21 = .ok (.iload_n 2, 1) := by decide +kernel
theorem dX5_takes_22 : decode cX5_takes 22 = .ok (.invokevirtual 74, 3) := by decide +kernel
theorem dX5_takes_25 : decode cX5_takes 25 = .ok (.ifCond .ne 9, 3) := by decide +kernel
theorem dX5_takes_28 : decode cX5_takes 28 = .ok (.aload_n 0, 1) := by decide +kernel
theorem dX5_takes_29 : decode cX5_takes 29 = .ok (.iconst (-1), 1) := by decide +kernel
theorem dX5_takes_30 : decode cX5_takes 30 = .ok (.invokevirtual 48, 3) := by decide +kernel
theorem dX5_takes_33 : decode cX5_takes 33 = .ok (.ireturn, 1) := by decide +kernel
theorem dX5_takes_34 : decode cX5_takes 34 = .ok (.aload_n 0, 1) := by decide +kernel
theorem dX5_takes_35 : decode cX5_takes 35 = .ok (.getfield 16, 3) := by decide +kernel
theorem dX5_takes_38 : decode cX5_takes 38 = .ok (.aload_n 0, 1) := by decide +kernel
theorem dX5_takes_39 : decode cX5_takes 39 = .ok (.getfield 10, 3) := by decide +kernel
theorem dX5_takes_42 : decode cX5_takes 42 = .ok (.invokevirtual 181, 3) := by decide +kernel
theorem dX5_takes_45 : decode cX5_takes 45 = .ok (.iconst 0, 1) := by decide +kernel
theorem dX5_takes_46 : decode cX5_takes 46 = .ok (.istore_n 3, 1) := by decide +kernel
theorem dX5_takes_47 : decode cX5_takes 47 = .ok (.iload_n 3, 1) := by decide +kernel
theorem dX5_takes_48 : decode cX5_takes 48 = .ok (.bipush 60, 2) := by decide +kernel
theorem dX5_takes_50 : decode cX5_takes 50 = .ok (.if_icmp .gt 37, 3) := by decide +kernel
theorem dX5_takes_53 : decode cX5_takes 53 = .ok (.aload_n 0, 1) := by decide +kernel
theorem dX5_takes_54 : decode cX5_takes 54 = .ok (.getfield 16, 3) := by decide +kernel
theorem dX5_takes_57 : decode cX5_takes 57 = .ok (.getfield 96, 3) := by decide +kernel
theorem dX5_takes_60 : decode cX5_takes 60 = .ok (.getfield 113, 3) := by decide +kernel
theorem dX5_takes_63 : decode cX5_takes 63 = .ok (.iload_n 1, 1) := by decide +kernel
theorem dX5_takes_64 : decode cX5_takes 64 = .ok (.invokestatic 83, 3) := by decide +kernel
theorem dX5_takes_67 : decode cX5_takes 67 = .ok (.iload_n 2, 1) := by decide +kernel
theorem dX5_takes_68 : decode cX5_takes 68 = .ok (.if_icmp .ne 5, 3) := by decide +kernel
theorem dX5_takes_71 : decode cX5_takes 71 = .ok (.iload_n 3, 1) := by decide +kernel
theorem dX5_takes_72 : decode cX5_takes 72 = .ok (.ireturn, 1) := by decide +kernel
theorem dX5_takes_73 : decode cX5_takes 73 = .ok (.aload_n 0, 1) := by decide +kernel
theorem dX5_takes_74 : decode cX5_takes 74 = .ok (.getfield 16, 3) := by decide +kernel
theorem dX5_takes_77 : decode cX5_takes 77 = .ok (.invokevirtual 165, 3) := by decide +kernel
theorem dX5_takes_80 : decode cX5_takes 80 = .ok (.pop, 1) := by decide +kernel
theorem dX5_takes_81 : decode cX5_takes 81 = .ok (.iinc 3 1, 3) := by decide +kernel
theorem dX5_takes_84 : decode cX5_takes 84 = .ok (.goto (-37), 3) := by decide +kernel
theorem dX5_takes_87 : decode cX5_takes 87 = .ok (.bipush (-9), 2) := by decide +kernel
theorem dX5_takes_89 : decode cX5_takes 89 = .ok (.ireturn, 1) := by decide +kernel
theorem dX5_still_0 : decode cX5_still 0 = .ok (.aload_n 0, 1) := by decide +kernel
theorem dX5_still_1 : decode cX5_still 1 = .ok (.getfield 16, 3) := by decide +kernel
theorem dX5_still_4 : decode cX5_still 4 = .ok (.aload_n 0, 1) := by decide +kernel
theorem dX5_still_5 : decode cX5_still 5 = .ok (.getfield 10, 3) := by decide +kernel
theorem dX5_still_8 : decode cX5_still 8 = .ok (.invokevirtual 181, 3) := by decide +kernel
theorem dX5_still_11 : decode cX5_still 11 = .ok (.iconst 0, 1) := by decide +kernel
theorem dX5_still_12 : decode cX5_still 12 = .ok (.istore_n 1, 1) := by decide +kernel
theorem dX5_still_13 : decode cX5_still 13 = .ok (.iload_n 1, 1) := by decide +kernel
theorem dX5_still_14 : decode cX5_still 14 = .ok (.bipush 60, 2) := by decide +kernel
theorem dX5_still_16 : decode cX5_still 16 = .ok (.if_icmp .gt 33, 3) := by decide +kernel
theorem dX5_still_19 : decode cX5_still 19 = .ok (.aload_n 0, 1) := by decide +kernel
theorem dX5_still_20 : decode cX5_still 20 = .ok (.getfield 16, 3) := by decide +kernel
theorem dX5_still_23 : decode cX5_still 23 = .ok (.getfield 96, 3) := by decide +kernel
theorem dX5_still_26 : decode cX5_still 26 = .ok (.iconst (-1), 1) := by decide +kernel
theorem dX5_still_27 : decode cX5_still 27 = .ok (.invokevirtual 100, 3) := by decide +kernel
theorem dX5_still_30 : decode cX5_still 30 = .ok (.ifCond .ne 5, 3) := by decide +kernel
theorem dX5_still_33 : decode cX5_still 33 = .ok (.iload_n 1, 1) := by decide +kernel
theorem dX5_still_34 : decode cX5_still 34 = .ok (.ireturn, 1) := by decide +kernel
theorem dX5_still_35 : decode cX5_still 35 = .ok (.aload_n 0, 1) := by decide +kernel
theorem dX5_still_36 : decode cX5_still 36 = .ok (.getfield 16, 3) := by decide +kernel
theorem dX5_still_39 : decode cX5_still 39 = .ok (.invokevirtual 165, 3) := by decide +kernel
theorem dX5_still_42 : decode cX5_still 42 = .ok (.pop, 1) := by decide +kernel
theorem dX5_still_43 : decode cX5_still 43 = .ok (.iinc 1 1, 3) := by decide +kernel
theorem dX5_still_46 : decode cX5_still 46 = .ok (.goto (-33), 3) := by decide +kernel
theorem dX5_still_49 : decode cX5_still 49 = .ok (.bipush (-9), 2) := by decide +kernel
theorem dX5_still_51 : decode cX5_still 51 = .ok (.ireturn, 1) := by decide +kernel
theorem dX5_most_0 : decode cX5_most 0 = .ok (.aload_n 0, 1) := by decide +kernel
theorem dX5_most_1 : decode cX5_most 1 = .ok (.iload_n 1, 1) := by decide +kernel
theorem dX5_most_2 : decode cX5_most 2 = .ok (.iload_n 2, 1) := by decide +kernel
theorem dX5_most_3 : decode cX5_most 3 = .ok (.invokevirtual 178, 3) := by decide +kernel
theorem dX5_most_6 : decode cX5_most 6 = .ok (.istore 4, 2) := by decide +kernel
theorem dX5_most_8 : decode cX5_most 8 = .ok (.iload 4, 2) := by decide +kernel
theorem dX5_most_10 : decode cX5_most 10 = .ok (.ifCond .ne 14, 3) := by decide +kernel
theorem dX5_most_13 : decode cX5_most 13 = .ok (.iload_n 3, 1) := by decide +kernel
theorem dX5_most_14 : decode cX5_most 14 = .ok (.invokestatic 172, 3) := by decide +kernel
theorem dX5_most_17 : decode cX5_most 17 = .ok (.ifCond .eq 7, 3) := by decide +kernel
theorem dX5_most_20 : decode cX5_most 20 = .ok (.bipush (-2), 2) := by decide +kernel
theorem dX5_most_22 : decode cX5_most 22 = .ok (.istore 4, 2) := by decide +kernel
theorem dX5_most_24 : decode cX5_most 24 = .ok (.iload 4, 2) := by decide +kernel
theorem dX5_most_26 : decode cX5_most 26 = .ok (.ifCond .eq 10, 3) := by decide +kernel
theorem dX5_most_29 : decode cX5_most 29 = .ok (.aload_n 0, 1) := by decide +kernel
theorem dX5_most_30 : decode cX5_most 30 = .ok (.iload 4, 2) := by decide +kernel
theorem dX5_most_32 : decode cX5_most 32 = .ok (.invokevirtual 48, 3) := by decide +kernel
theorem dX5_most_35 : decode cX5_most 35 = .ok (.ireturn, 1) := by decide +kernel
theorem dX5_most_36 : decode cX5_most 36 = .ok (.aload_n 0, 1) := by decide +kernel
theorem dX5_most_37 : decode cX5_most 37 = .ok (.getfield 16, 3) := by decide +kernel
theorem dX5_most_40 : decode cX5_most 40 = .ok (.aload_n 0, 1) := by decide +kernel
theorem dX5_most_41 : decode cX5_most 41 = .ok (.getfield 10, 3) := by decide +kernel
theorem dX5_most_44 : decode cX5_most 44 = .ok (.invokevirtual 181, 3) := by decide +kernel
theorem dX5_most_47 : decode cX5_most 47 = .ok (.aload_n 0, 1) := by decide +kernel
theorem dX5_most_48 : decode cX5_most 48 = .ok (.getfield 16, 3) := by decide +kernel
theorem dX5_most_51 : decode cX5_most 51 = .ok (.getfield 96, 3) := by decide +kernel
theorem dX5_most_54 : decode cX5_most 54 = .ok (.iload_n 1, 1) := by decide +kernel
theorem dX5_most_55 : decode cX5_most 55 = .ok (.invokevirtual 100, 3) := by decide +kernel
theorem dX5_most_58 : decode cX5_most 58 = .ok (.istore 5, 2) := by decide +kernel
theorem dX5_most_60 : decode cX5_most 60 = .ok (.iconst 0, 1) := by decide +kernel
theorem dX5_most_61 : decode cX5_most 61 = .ok (.istore 6, 2) := by decide +kernel
theorem dX5_most_63 : decode cX5_most 63 = .ok (.iconst 1, 1) := by decide +kernel
theorem dX5_most_64 : decode cX5_most 64 = .ok (.istore 7, 2) := by decide +kernel
theorem dX5_most_66 : decode cX5_most 66 = .ok (.iload 7, 2) := by decide +kernel
theorem dX5_most_68 : decode cX5_most 68 = .ok (.iload_n 2, 1) := by decide +kernel
theorem dX5_most_69 : decode cX5_most 69 = .ok (.if_icmp .gt 45, 3) := by decide +kernel
theorem dX5_most_72 : decode cX5_most 72 = .ok (.aload_n 0, 1) := by decide +kernel
theorem dX5_most_73 : decode cX5_most 73 = .ok (.getfield 16, 3) := by decide +kernel
theorem dX5_most_76 : decode cX5_most 76 = .ok (.invokevirtual 165, 3) := by decide +kernel
theorem dX5_most_79 : decode cX5_most 79 = .ok (.pop, 1) := by decide +kernel
theorem dX5_most_80 : decode cX5_most 80 = .ok (.aload_n 0, 1) := by decide +kernel
theorem dX5_most_81 : decode cX5_most 81 = .ok (.getfield 16, 3) := by decide +kernel
theorem dX5_most_84 : decode cX5_most 84 = .ok (.getfield 96, 3) := by decide +kernel
theorem dX5_most_87 : decode cX5_most 87 = .ok (.iload_n 1, 1) := by decide +kernel
theorem dX5_most_88 : decode cX5_most 88 = .ok (.invokevirtual 100, 3) := by decide +kernel
theorem dX5_most_91 : decode cX5_most 91 = .ok (.istore 8, 2) := by decide +kernel
theorem dX5_most_93 : decode cX5_most 93 = .ok (.iload 8, 2) := by decide +kernel
theorem dX5_most_95 : decode cX5_most 95 = .ok (.iload 5, 2) := by decide +kernel
theorem dX5_most_97 : decode cX5_most 97 = .ok (.if_icmp .le 11, 3) := by decide +kernel
theorem dX5_most_100 : decode cX5_most 100 = .ok (.iload 8, 2) := by decide +kernel
theorem dX5_most_102 : decode cX5_most 102 = .ok (.istore 5, 2) := by decide +kernel
theorem dX5_most_104 : decode cX5_most 104 = .ok (.iload 7, 2) := by decide +kernel
theorem dX5_most_106 : decode cX5_most 106 = .ok (.istore 6, 2) := by decide +kernel
theorem dX5_most_108 : decode cX5_most 108 = .ok (.iinc 7 1, 3) := by decide +kernel
theorem dX5_most_111 : decode cX5_most 111 = .ok (.goto (-45), 3) := by decide +kernel
theorem dX5_most_114 : decode cX5_most 114 = .ok (.iload_n 3, 1) := by decide +kernel
theorem dX5_most_115 : decode cX5_most 115 = .ok (.ifCond .ne 8, 3) := by decide +kernel
theorem dX5_most_118 : decode cX5_most 118 = .ok (.iload 6, 2) := by decide +kernel
theorem dX5_most_120 : decode cX5_most 120 = .ok (.goto 5, 3) := by decide +kernel
theorem dX5_most_123 : decode cX5_most 123 = .ok (.iload 5, 2) := by decide +kernel
theorem dX5_most_125 : decode cX5_most 125 = .ok (.ireturn, 1) := by decide +kernel
theorem dX5_lasts_0 : decode cX5_lasts 0 = .ok (.iload_n 1, 1) := by decide +kernel
theorem dX5_lasts_1 : decode cX5_lasts 1 = .ok (.iconst 0, 1) := by decide +kernel
theorem dX5_lasts_2 : decode cX5_lasts 2 = .ok (.bipush 60, 2) := by decide +kernel
theorem dX5_lasts_4 : decode cX5_lasts 4 = .ok (.invokestatic 44, 3) := by decide +kernel
theorem dX5_lasts_7 : decode cX5_lasts 7 = .ok (.istore_n 2, 1) := by decide +kernel
theorem dX5_lasts_8 : decode cX5_lasts 8 = .ok (.iload_n 2, 1) := by decide +kernel
theorem dX5_lasts_9 : decode cX5_lasts 9 = .ok (.ifCond .eq 9, 3) := by decide +kernel
theorem dX5_lasts_12 : decode cX5_lasts 12 = .ok (.aload_n 0, 1) := by decide +kernel
theorem dX5_lasts_13 : decode cX5_lasts 13 = .ok (.iload_n 2, 1) := by decide +kernel
theorem dX5_lasts_14 : decode cX5_lasts 14 = .ok (.invokevirtual 48, 3) := by decide +kernel
theorem dX5_lasts_17 : decode cX5_lasts 17 = .ok (.ireturn, 1) := by decide +kernel
theorem dX5_lasts_18 : decode cX5_lasts 18 = .ok (.aload_n 0, 1) := by decide +kernel
theorem dX5_lasts_19 : decode cX5_lasts 19 = .ok (.iload_n 1, 1) := by decide +kernel
theorem dX5_lasts_20 : decode cX5_lasts 20 = .ok (.invokevirtual 175, 3) := by decide +kernel
theorem dX5_lasts_23 : decode cX5_lasts 23 = .ok (.iconst 0, 1) := by decide +kernel
theorem dX5_lasts_24 : decode cX5_lasts 24 = .ok (.istore_n 3, 1) := by decide +kernel
theorem dX5_lasts_25 : decode cX5_lasts 25 = .ok (.bipush (-9), 2) := by decide +kernel
theorem dX5_lasts_27 : decode cX5_lasts 27 = .ok (.istore 4, 2) := by decide +kernel
theorem dX5_lasts_29 : decode cX5_lasts 29 = .ok (.iconst 0, 1) := by decide +kernel
theorem dX5_lasts_30 : decode cX5_lasts 30 = .ok (.istore 5, 2) := by decide +kernel
theorem dX5_lasts_32 : decode cX5_lasts 32 = .ok (.iload 5, 2) := by decide +kernel
theorem dX5_lasts_34 : decode cX5_lasts 34 = .ok (.aload_n 0, 1) := by decide +kernel
theorem dX5_lasts_35 : decode cX5_lasts 35 = .ok (.getfield 16, 3) := by decide +kernel
theorem dX5_lasts_38 : decode cX5_lasts 38 = .ok (.getfield 70, 3) := by decide +kernel
theorem dX5_lasts_41 : decode cX5_lasts 41 = .ok (.getfield 185, 3) := by decide +kernel
theorem dX5_lasts_44 : decode cX5_lasts 44 = .ok (.if_icmp .ge 36, 3) := by decide +kernel
theorem dX5_lasts_47 : decode cX5_lasts 47 = .ok (.aload_n 0, 1) := by decide +kernel
theorem dX5_lasts_48 : decode cX5_lasts 48 = .ok (.getfield 16, 3) := by decide +kernel
theorem dX5_lasts_51 : decode cX5_lasts 51 = .ok (.getfield 96, 3) := by decide +kernel
theorem dX5_lasts_54 : decode cX5_lasts 54 = .ok (.iload 5, 2) := by decide +kernel
theorem dX5_lasts_56 : decode cX5_lasts 56 = .ok (.invokevirtual 100, 3) := by decide +kernel
theorem dX5_lasts_59 : decode cX5_lasts 59 = .ok (.istore 6, 2) := by decide +kernel
theorem dX5_lasts_61 : decode cX5_lasts 61 = .ok (.iload 6, 2) := by decide +kernel
theorem dX5_lasts_63 : decode cX5_lasts 63 = .ok (.iload_n 3, 1) := by decide +kernel
theorem dX5_lasts_64 : decode cX5_lasts 64 = .ok (.if_icmp .le 10, 3) := by decide +kernel
theorem dX5_lasts_67 : decode cX5_lasts 67 = .ok (.iload 6, 2) := by decide +kernel
theorem dX5_lasts_69 : decode cX5_lasts 69 = .ok (.istore_n 3, 1) := by decide +kernel
theorem dX5_lasts_70 : decode cX5_lasts 70 = .ok (.iload 5, 2) := by decide +kernel
theorem dX5_lasts_72 : decode cX5_lasts 72 = .ok (.istore 4, 2) := by decide +kernel
theorem dX5_lasts_74 : decode cX5_lasts 74 = .ok (.iinc 5 1, 3) := by decide +kernel
theorem dX5_lasts_77 : decode cX5_lasts 77 = .ok (.goto (-45), 3) := by decide +kernel
theorem dX5_lasts_80 : decode cX5_lasts 80 = .ok (.iload 4, 2) := by decide +kernel
theorem dX5_lasts_82 : decode cX5_lasts 82 = .ok (.ireturn, 1) := by decide +kernel
theorem dX5_from_0 : decode cX5_from 0 = .ok (.aload_n 0, 1) := by decide +kernel
theorem dX5_from_1 : decode cX5_from 1 = .ok (.iload_n 1, 1) := by decide +kernel
theorem dX5_from_2 : decode cX5_from 2 = .ok (.iload_n 2, 1) := by decide +kernel
theorem dX5_from_3 : decode cX5_from 3 = .ok (.invokevirtual 168, 3) := by decide +kernel
theorem dX5_from_6 : decode cX5_from 6 = .ok (.istore_n 3, 1) := by decide +kernel
theorem dX5_from_7 : decode cX5_from 7 = .ok (.iload_n 3, 1) := by decide +kernel
theorem dX5_from_8 : decode cX5_from 8 = .ok (.ifCond .eq 9, 3) := by decide +kernel
theorem dX5_from_11 : decode cX5_from 11 = .ok (.aload_n 0, 1) := by decide +kernel
theorem dX5_from_12 : decode cX5_from 12 = .ok (.iload_n 3, 1) := by decide +kernel
theorem dX5_from_13 : decode cX5_from 13 = .ok (.invokevirtual 48, 3) := by decide +kernel
theorem dX5_from_16 : decode cX5_from 16 = .ok (.ireturn, 1) := by decide +kernel
theorem dX5_from_17 : decode cX5_from 17 = .ok (.aload_n 0, 1) := by decide +kernel
theorem dX5_from_18 : decode cX5_from 18 = .ok (.iload_n 2, 1) := by decide +kernel
theorem dX5_from_19 : decode cX5_from 19 = .ok (.invokevirtual 175, 3) := by decide +kernel
theorem dX5_from_22 : decode cX5_from 22 = .ok (.aload_n 0, 1) := by decide +kernel
theorem dX5_from_23 : decode cX5_from 23 = .ok (.getfield 16, 3) := by decide +kernel
theorem dX5_from_26 : decode cX5_from 26 = .ok (.getfield 96, 3) := by decide +kernel
theorem dX5_from_29 : decode cX5_from 29 = .ok (.getfield 186, 3) := by decide +kernel
theorem dX5_from_32 : decode cX5_from 32 = .ok (.iload_n 1, 1) := by decide +kernel
theorem dX5_from_33 : decode cX5_from 33 = .ok (.invokestatic 83, 3) := by decide +kernel
theorem dX5_from_36 : decode cX5_from 36 = .ok (.ireturn, 1) := by decide +kernel
theorem dX5_first_0 : decode cX5_first 0 = .ok (.aload_n 0, 1) := by decide +kernel
theorem dX5_first_1 : decode cX5_first 1 = .ok (.iload_n 1, 1) := by decide +kernel
theorem dX5_first_2 : decode cX5_first 2 = .ok (.iload_n 2, 1) := by decide +kernel
theorem dX5_first_3 : decode cX5_first 3 = .ok (.invokevirtual 168, 3) := by decide +kernel
theorem dX5_first_6 : decode cX5_first 6 = .ok (.istore_n 3, 1) := by decide +kernel
theorem dX5_first_7 : decode cX5_first 7 = .ok (.iload_n 3, 1) := by decide +kernel
theorem dX5_first_8 : decode cX5_first 8 = .ok (.ifCond .eq 9, 3) := by decide +kernel
theorem dX5_first_11 : decode cX5_first 11 = .ok (.aload_n 0, 1) := by decide +kernel
theorem dX5_first_12 : decode cX5_first 12 = .ok (.iload_n 3, 1) := by decide +kernel
theorem dX5_first_13 : decode cX5_first 13 = .ok (.invokevirtual 48, 3) := by decide +kernel
theorem dX5_first_16 : decode cX5_first 16 = .ok (.ireturn, 1) := by decide +kernel
theorem dX5_first_17 : decode cX5_first 17 = .ok (.aload_n 0, 1) := by decide +kernel
theorem dX5_first_18 : decode cX5_first 18 = .ok (.iload_n 2, 1) := by decide +kernel
theorem dX5_first_19 : decode cX5_first 19 = .ok (.invokevirtual 175, 3) := by decide +kernel
theorem dX5_first_22 : decode cX5_first 22 = .ok (.aload_n 0, 1) := by decide +kernel
theorem dX5_first_23 : decode cX5_first 23 = .ok (.getfield 16, 3) := by decide +kernel
theorem dX5_first_26 : decode cX5_first 26 = .ok (.getfield 96, 3) := by decide +kernel
theorem dX5_first_29 : decode cX5_first 29 = .ok (.getfield 189, 3) := by decide +kernel
theorem dX5_first_32 : decode cX5_first 32 = .ok (.iload_n 1, 1) := by decide +kernel
theorem dX5_first_33 : decode cX5_first 33 = .ok (.invokestatic 83, 3) := by decide +kernel
theorem dX5_first_36 : decode cX5_first 36 = .ok (.ireturn, 1) := by decide +kernel
theorem dX5_rid_0 : decode cX5_rid 0 = .ok (.aload_n 0, 1) := by decide +kernel
theorem dX5_rid_1 : decode cX5_rid 1 = .ok (.getfield 10, 3) := by decide +kernel
theorem dX5_rid_4 : decode cX5_rid 4 = .ok (.getfield 96, 3) := by decide +kernel
theorem dX5_rid_7 : decode cX5_rid 7 = .ok (.iload_n 1, 1) := by decide +kernel
theorem dX5_rid_8 : decode cX5_rid 8 = .ok (.invokevirtual 105, 3) := by decide +kernel
theorem dX5_rid_11 : decode cX5_rid 11 = .ok (.ifCond .ne 9, 3) := by decide +kernel
theorem dX5_rid_14 : decode cX5_rid 14 = .ok (.aload_n 0, 1) := by decide +kernel
theorem dX5_rid_15 : decode cX5_rid 15 = .ok (.iconst (-1), 1) := by decide +kernel
theorem dX5_rid_16 : decode cX5_rid 16 = .ok (.invokevirtual 48, 3) := by decide +kernel
theorem dX5_rid_19 : decode cX5_rid 19 = .ok (.ireturn, 1) := by decide +kernel
theorem dX5_rid_20 : decode cX5_rid 20 = .ok (.iload_n 2, 1) := by decide +kernel
theorem dX5_rid_21 : decode cX5_rid 21 = .ok (.invokestatic 172, 3) := by decide +kernel
theorem dX5_rid_24 : decode cX5_rid 24 = .ok (.ifCond .eq 10, 3) := by decide +kernel
theorem dX5_rid_27 : decode cX5_rid 27 = .ok (.aload_n 0, 1) := by decide +kernel
theorem dX5_rid_28 : decode cX5_rid 28 = .ok (.bipush (-2), 2) := by decide +kernel
theorem dX5_rid_30 : decode cX5_rid 30 = .ok (.invokevirtual 48, 3) := by decide +kernel
theorem dX5_rid_33 : decode cX5_rid 33 = .ok (.ireturn, 1) := by decide +kernel
theorem dX5_rid_34 : decode cX5_rid 34 = .ok (.aload_n 0, 1) := by decide +kernel
theorem dX5_rid_35 : decode cX5_rid 35 = .ok (.getfield 10, 3) := by decide +kernel
theorem dX5_rid_38 : decode cX5_rid 38 = .ok (.getfield 96, 3) := by decide +kernel
theorem dX5_rid_41 : decode cX5_rid 41 = .ok (.iload_n 1, 1) := by decide +kernel
theorem dX5_rid_42 : decode cX5_rid 42 = .ok (.invokevirtual 159, 3) := by decide +kernel
theorem dX5_rid_45 : decode cX5_rid 45 = .ok (.ifCond .ne 10, 3) := by decide +kernel
theorem dX5_rid_48 : decode cX5_rid 48 = .ok (.aload_n 0, 1) := by decide +kernel
theorem dX5_rid_49 : decode cX5_rid 49 = .ok (.bipush (-3), 2) := by decide +kernel
theorem dX5_rid_51 : decode cX5_rid 51 = .ok (.invokevirtual 48, 3) := by decide +kernel
theorem dX5_rid_54 : decode cX5_rid 54 = .ok (.ireturn, 1) := by decide +kernel
theorem dX5_rid_55 : decode cX5_rid 55 = .ok (.bipush 61, 2) := by decide +kernel
theorem dX5_rid_57 : decode cX5_rid 57 = .ok (.istore_n 3, 1) := by decide +kernel
theorem dX5_rid_58 : decode cX5_rid 58 = .ok (.bipush (-9), 2) := by decide +kernel
theorem dX5_rid_60 : decode cX5_rid 60 = .ok (.istore 4, 2) := by decide +kernel
theorem dX5_rid_62 : decode cX5_rid 62 = .ok (.iconst 0, 1) := by decide +kernel
theorem dX5_rid_63 : decode cX5_rid 63 = .ok (.istore 5, 2) := by decide +kernel
theorem dX5_rid_65 : decode cX5_rid 65 = .ok (.iload 5, 2) := by decide +kernel
theorem dX5_rid_67 : decode cX5_rid 67 = .ok (.iconst 3, 1) := by decide +kernel
theorem dX5_rid_68 : decode cX5_rid 68 = .ok (.if_icmp .gt 53, 3) := by decide +kernel
theorem dX5_rid_71 : decode cX5_rid 71 = .ok (.aload_n 0, 1) := by decide +kernel
theorem dX5_rid_72 : decode cX5_rid 72 = .ok (.getfield 16, 3) := by decide +kernel
theorem dX5_rid_75 : decode cX5_rid 75 = .ok (.aload_n 0, 1) := by decide +kernel
theorem dX5_rid_76 : decode cX5_rid 76 = .ok (.getfield 10, 3) := by decide +kernel
theorem dX5_rid_79 : decode cX5_rid 79 = .ok (.invokevirtual 181, 3) := by decide +kernel
theorem dX5_rid_82 : decode cX5_rid 82 = .ok (.aload_n 0, 1) := by decide +kernel
theorem dX5_rid_83 : decode cX5_rid 83 = .ok (.getfield 16, 3) := by decide +kernel
theorem dX5_rid_86 : decode cX5_rid 86 = .ok (.getfield 96, 3) := by decide +kernel
theorem dX5_rid_89 : decode cX5_rid 89 = .ok (.iload_n 1, 1) := by decide +kernel
theorem dX5_rid_90 : decode cX5_rid 90 = .ok (.iload 5, 2) := by decide +kernel
theorem dX5_rid_92 : decode cX5_rid 92 = .ok (.invokevirtual 162, 3) := by decide +kernel
theorem dX5_rid_95 : decode cX5_rid 95 = .ok (.aload_n 0, 1) := by decide +kernel
theorem dX5_rid_96 : decode cX5_rid 96 = .ok (.iload_n 1, 1) := by decide +kernel
theorem dX5_rid_97 : decode cX5_rid 97 = .ok (.invokevirtual 192, 3) := by decide +kernel
theorem dX5_rid_100 : decode cX5_rid 100 = .ok (.istore 6, 2) := by decide +kernel
theorem dX5_rid_102 : decode cX5_rid 102 = .ok (.iload 6, 2) := by decide +kernel
theorem dX5_rid_104 : decode cX5_rid 104 = .ok (.iload_n 3, 1) := by decide +kernel
theorem dX5_rid_105 : decode cX5_rid 105 = .ok (.if_icmp .ge 10, 3) := by decide +kernel
theorem dX5_rid_108 : decode cX5_rid 108 = .ok (.iload 6, 2) := by decide +kernel
theorem dX5_rid_110 : decode cX5_rid 110 = .ok (.istore_n 3, 1) := by decide +kernel
theorem dX5_rid_111 : decode cX5_rid 111 = .ok (.iload 5, 2) := by decide +kernel
theorem dX5_rid_113 : decode cX5_rid 113 = .ok (.istore 4, 2) := by decide +kernel
theorem dX5_rid_115 : decode cX5_rid 115 = .ok (.iinc 5 1, 3) := by decide +kernel
theorem dX5_rid_118 : decode cX5_rid 118 = .ok (.goto (-53), 3) := by decide +kernel
theorem dX5_rid_121 : decode cX5_rid 121 = .ok (.iload_n 2, 1) := by decide +kernel
theorem dX5_rid_122 : decode cX5_rid 122 = .ok (.ifCond .eq 10, 3) := by decide +kernel
theorem dX5_rid_125 : decode cX5_rid 125 = .ok (.iload 4, 2) := by decide +kernel
theorem dX5_rid_127 : decode cX5_rid 127 = .ok (.bipush (-9), 2) := by decide +kernel
theorem dX5_rid_129 : decode cX5_rid 129 = .ok (.if_icmp .ne 8, 3) := by decide +kernel
theorem dX5_rid_132 : decode cX5_rid 132 = .ok (.iload 4, 2) := by decide +kernel
theorem dX5_rid_134 : decode cX5_rid 134 = .ok (.goto 4, 3) := by decide +kernel
theorem dX5_rid_137 : decode cX5_rid 137 = .ok (.iload_n 3, 1) := by decide +kernel
theorem dX5_rid_138 : decode cX5_rid 138 = .ok (.ireturn, 1) := by decide +kernel
theorem dX5_instead_0 : decode cX5_instead 0 = .ok (.aload_n 0, 1) := by decide +kernel
theorem dX5_instead_1 : decode cX5_instead 1 = .ok (.getfield 10, 3) := by decide +kernel
theorem dX5_instead_4 : decode cX5_instead 4 = .ok (.getfield 96, 3) := by decide +kernel
theorem dX5_instead_7 : decode cX5_instead 7 = .ok (.iload_n 1, 1) := by decide +kernel
theorem dX5_instead_8 : decode cX5_instead 8 = .ok (.invokevirtual 105, 3) := by decide +kernel
theorem dX5_instead_11 : decode cX5_instead 11 = .ok (.ifCond .ne 9, 3) := by decide +kernel
theorem dX5_instead_14 : decode cX5_instead 14 = .ok (.aload_n 0, 1) := by decide +kernel
theorem dX5_instead_15 : decode cX5_instead 15 = .ok (.iconst (-1), 1) := by decide +kernel
theorem dX5_instead_16 : decode cX5_instead 16 = .ok (.invokevirtual 48, 3) := by decide +kernel
theorem dX5_instead_19 : decode cX5_instead 19 = .ok (.ireturn, 1) := by decide +kernel
theorem dX5_instead_20 : decode cX5_instead 20 = .ok (.aload_n 0, 1) := by decide +kernel
theorem dX5_instead_21 : decode cX5_instead 21 = .ok (.getfield 10, 3) := by decide +kernel
theorem dX5_instead_24 : decode cX5_instead 24 = .ok (.getfield 96, 3) := by decide +kernel
theorem dX5_instead_27 : decode cX5_instead 27 = .ok (.iload_n 1, 1) := by decide +kernel
theorem dX5_instead_28 : decode cX5_instead 28 = .ok (.invokevirtual 159, 3) := by decide +kernel
theorem dX5_instead_31 : decode cX5_instead 31 = .ok (.ifCond .ne 10, 3) := by decide +kernel
theorem dX5_instead_34 : decode cX5_instead 34 = .ok (.aload_n 0, 1) := by decide +kernel
theorem dX5_instead_35 : decode cX5_instead 35 = .ok (.bipush (-3), 2) := by decide +kernel
theorem dX5_instead_37 : decode cX5_instead 37 = .ok (.invokevirtual 48, 3) := by decide +kernel
theorem dX5_instead_40 : decode cX5_instead 40 = .ok (.ireturn, 1) := by decide +kernel
theorem dX5_instead_41 : decode cX5_instead 41 = .ok (.aload_n 0, 1) := by decide +kernel
theorem dX5_instead_42 : decode cX5_instead 42 = .ok (.getfield 10, 3) := by decide +kernel
theorem dX5_instead_45 : decode cX5_instead 45 = .ok (.getfield 96, 3) := by decide +kernel
theorem dX5_instead_48 : decode cX5_instead 48 = .ok (.getfield 113, 3) := by decide +kernel
theorem dX5_instead_51 : decode cX5_instead 51 = .ok (.iload_n 1, 1) := by decide +kernel
theorem dX5_instead_52 : decode cX5_instead 52 = .ok (.invokestatic 83, 3) := by decide +kernel
theorem dX5_instead_55 : decode cX5_instead 55 = .ok (.istore_n 2, 1) := by decide +kernel
theorem dX5_instead_56 : decode cX5_instead 56 = .ok (.aload_n 0, 1) := by decide +kernel
theorem dX5_instead_57 : decode cX5_instead 57 = .ok (.getfield 16, 3) := by decide +kernel
theorem dX5_instead_60 : decode cX5_instead 60 = .ok (.aload_n 0, 1) := by decide +kernel
theorem dX5_instead_61 : decode cX5_instead 61 = .ok (.getfield 10, 3) := by decide +kernel
theorem dX5_instead_64 : decode cX5_instead 64 = .ok (.invokevirtual 181, 3) := by decide +kernel
theorem dX5_instead_67 : decode cX5_instead 67 = .ok (.aload_n 0, 1) := by decide +kernel
theorem dX5_instead_68 : decode cX5_instead 68 = .ok (.iload_n 1, 1) := by decide +kernel
theorem dX5_instead_69 : decode cX5_instead 69 = .ok (.invokevirtual 192, 3) := by decide +kernel
theorem dX5_instead_72 : decode cX5_instead 72 = .ok (.istore_n 3, 1) := by decide +kernel
theorem dX5_instead_73 : decode cX5_instead 73 = .ok (.bipush (-9), 2) := by decide +kernel
theorem dX5_instead_75 : decode cX5_instead 75 = .ok (.istore 4, 2) := by decide +kernel
theorem dX5_instead_77 : decode cX5_instead 77 = .ok (.iconst 0, 1) := by decide +kernel
theorem dX5_instead_78 : decode cX5_instead 78 = .ok (.istore 5, 2) := by decide +kernel
theorem dX5_instead_80 : decode cX5_instead 80 = .ok (.iload 5, 2) := by decide +kernel
theorem dX5_instead_82 : decode cX5_instead 82 = .ok (.aload_n 0, 1) := by decide +kernel
theorem dX5_instead_83 : decode cX5_instead 83 = .ok (.getfield 10, 3) := by decide +kernel
theorem dX5_instead_86 : decode cX5_instead 86 = .ok (.getfield 70, 3) := by decide +kernel
theorem dX5_instead_89 : decode cX5_instead 89 = .ok (.getfield 185, 3) := by decide +kernel
theorem dX5_instead_92 : decode cX5_instead 92 = .ok (.if_icmp .ge 56, 3) := by decide +kernel
theorem dX5_instead_95 : decode cX5_instead 95 = .ok (.iload 5, 2) := by decide +kernel
theorem dX5_instead_97 : decode cX5_instead 97 = .ok (.iload_n 2, 1) := by decide +kernel
theorem dX5_instead_98 : decode cX5_instead 98 = .ok (.if_icmp .eq 44, 3) := by decide +kernel
theorem dX5_instead_101 : decode cX5_instead 101 = .ok (.aload_n 0, 1) := by decide +kernel
theorem dX5_instead_102 : decode cX5_instead 102 = .ok (.getfield 16, 3) := by decide +kernel
theorem dX5_instead_105 : decode cX5_instead 105 = .ok (.aload_n 0, 1) := by decide +kernel
theorem dX5_instead_106 : decode cX5_instead 106 = .ok (.getfield 10, 3) := by decide +kernel
theorem dX5_instead_109 : decode cX5_instead 109 = .ok (.invokevirtual 181, 3) := by decide +kernel
theorem dX5_instead_112 : decode cX5_instead 112 = .ok (.aload_n 0, 1) := by decide +kernel
theorem dX5_instead_113 : decode cX5_instead 113 = .ok (.getfield 16, 3) := by decide +kernel
theorem dX5_instead_116 : decode cX5_instead 116 = .ok (.iload_n 1, 1) := by decide +kernel
theorem dX5_instead_117 : decode cX5_instead 117 = .ok (.iload 5, 2) := by decide +kernel
theorem dX5_instead_119 : decode cX5_instead 119 = .ok (.invokevirtual 155, 3) := by decide +kernel
theorem dX5_instead_122 : decode cX5_instead 122 = .ok (.aload_n 0, 1) := by decide +kernel
theorem dX5_instead_123 : decode cX5_instead 123 = .ok (.iload_n 1, 1) := by decide +kernel
theorem dX5_instead_124 : decode cX5_instead 124 = .ok (.invokevirtual 192, 3) := by decide +kernel
theorem dX5_instead_127 : decode cX5_instead 127 = .ok (.istore 6, 2) := by decide +kernel
theorem dX5_instead_129 : decode cX5_instead 129 = .ok (.iload 6, 2) := by decide +kernel
theorem dX5_instead_131 : decode cX5_instead 131 = .ok (.iload_n 3, 1) := by decide +kernel
theorem dX5_instead_132 : decode cX5_instead 132 = .ok (.if_icmp .ge 10, 3) := by decide +kernel
theorem dX5_instead_135 : decode cX5_instead 135 = .ok (.iload 6, 2) := by decide +kernel
theorem dX5_instead_137 : decode cX5_instead 137 = .ok (.istore_n 3, 1) := by decide +kernel
theorem dX5_instead_138 : decode cX5_instead 138 = .ok (.iload 5, 2) := by decide +kernel
theorem dX5_instead_140 : decode cX5_instead 140 = .ok (.istore 4, 2) := by decide +kernel
theorem dX5_instead_142 : decode cX5_instead 142 = .ok (.iinc 5 1, 3) := by decide +kernel
theorem dX5_instead_145 : decode cX5_instead 145 = .ok (.goto (-65), 3) := by decide +kernel
theorem dX5_instead_148 : decode cX5_instead 148 = .ok (.iload 4, 2) := by decide +kernel
theorem dX5_instead_150 : decode cX5_instead 150 = .ok (.ireturn, 1) := by decide +kernel
theorem dX5_shut_0 : decode cX5_shut 0 = .ok (.iload_n 1, 1) := by decide +kernel
theorem dX5_shut_1 : decode cX5_shut 1 = .ok (.iconst 0, 1) := by decide +kernel
theorem dX5_shut_2 : decode cX5_shut 2 = .ok (.bipush 60, 2) := by decide +kernel
theorem dX5_shut_4 : decode cX5_shut 4 = .ok (.invokestatic 44, 3) := by decide +kernel
theorem dX5_shut_7 : decode cX5_shut 7 = .ok (.istore_n 2, 1) := by decide +kernel
theorem dX5_shut_8 : decode cX5_shut 8 = .ok (.iload_n 2, 1) := by decide +kernel
theorem dX5_shut_9 : decode cX5_shut 9 = .ok (.ifCond .eq 9, 3) := by decide +kernel
theorem dX5_shut_12 : decode cX5_shut 12 = .ok (.aload_n 0, 1) := by decide +kernel
theorem dX5_shut_13 : decode cX5_shut 13 = .ok (.iload_n 2, 1) := by decide +kernel
theorem dX5_shut_14 : decode cX5_shut 14 = .ok (.invokevirtual 48, 3) := by decide +kernel
theorem dX5_shut_17 : decode cX5_shut 17 = .ok (.ireturn, 1) := by decide +kernel
theorem dX5_shut_18 : decode cX5_shut 18 = .ok (.aload_n 0, 1) := by decide +kernel
theorem dX5_shut_19 : decode cX5_shut 19 = .ok (.iload_n 1, 1) := by decide +kernel
theorem dX5_shut_20 : decode cX5_shut 20 = .ok (.invokevirtual 175, 3) := by decide +kernel
theorem dX5_shut_23 : decode cX5_shut 23 = .ok (.aload_n 0, 1) := by decide +kernel
theorem dX5_shut_24 : decode cX5_shut 24 = .ok (.getfield 16, 3) := by decide +kernel
theorem dX5_shut_27 : decode cX5_shut 27 = .ok (.getfield 96, 3) := by decide +kernel
theorem dX5_shut_30 : decode cX5_shut 30 = .ok (.iconst (-1), 1) := by decide +kernel
theorem dX5_shut_31 : decode cX5_shut 31 = .ok (.invokevirtual 100, 3) := by decide +kernel
theorem dX5_shut_34 : decode cX5_shut 34 = .ok (.istore_n 3, 1) := by decide +kernel
theorem dX5_shut_35 : decode cX5_shut 35 = .ok (.bipush (-9), 2) := by decide +kernel
theorem dX5_shut_37 : decode cX5_shut 37 = .ok (.istore 4, 2) := by decide +kernel
theorem dX5_shut_39 : decode cX5_shut 39 = .ok (.iconst 0, 1) := by decide +kernel
theorem dX5_shut_40 : decode cX5_shut 40 = .ok (.istore 5, 2) := by decide +kernel
theorem dX5_shut_42 : decode cX5_shut 42 = .ok (.iload 5, 2) := by decide +kernel
theorem dX5_shut_44 : decode cX5_shut 44 = .ok (.aload_n 0, 1) := by decide +kernel
theorem dX5_shut_45 : decode cX5_shut 45 = .ok (.getfield 10, 3) := by decide +kernel
theorem dX5_shut_48 : decode cX5_shut 48 = .ok (.getfield 138, 3) := by decide +kernel
theorem dX5_shut_51 : decode cX5_shut 51 = .ok (.getfield 195, 3) := by decide +kernel
theorem dX5_shut_54 : decode cX5_shut 54 = .ok (.if_icmp .ge 82, 3) := by decide +kernel
theorem dX5_shut_57 : decode cX5_shut 57 = .ok (.aload_n 0, 1) := by decide +kernel
theorem dX5_shut_58 : decode cX5_shut 58 = .ok (.getfield 10, 3) := by decide +kernel
theorem dX5_shut_61 : decode cX5_shut 61 = .ok (.getfield 138, 3) := by decide +kernel
theorem dX5_shut_64 : decode cX5_shut 64 = .ok (.iload 5, 2) := by decide +kernel
theorem dX5_shut_66 : decode cX5_shut 66 = .ok (.invokevirtual 196, 3) := by decide +kernel
theorem dX5_shut_69 : decode cX5_shut 69 = .ok (.ifCond .eq 61, 3) := by decide +kernel
theorem dX5_shut_72 : decode cX5_shut 72 = .ok (.aload_n 0, 1) := by decide +kernel
theorem dX5_shut_73 : decode cX5_shut 73 = .ok (.getfield 16, 3) := by decide +kernel
theorem dX5_shut_76 : decode cX5_shut 76 = .ok (.aload_n 0, 1) := by decide +kernel
theorem dX5_shut_77 : decode cX5_shut 77 = .ok (.getfield 10, 3) := by decide +kernel
theorem dX5_shut_80 : decode cX5_shut 80 = .ok (.invokevirtual 181, 3) := by decide +kernel
theorem dX5_shut_83 : decode cX5_shut 83 = .ok (.aload_n 0, 1) := by decide +kernel
theorem dX5_shut_84 : decode cX5_shut 84 = .ok (.getfield 16, 3) := by decide +kernel
theorem dX5_shut_87 : decode cX5_shut 87 = .ok (.getfield 138, 3) := by decide +kernel
theorem dX5_shut_90 : decode cX5_shut 90 = .ok (.iload 5, 2) := by decide +kernel
theorem dX5_shut_92 : decode cX5_shut 92 = .ok (.invokevirtual 145, 3) := by decide +kernel
theorem dX5_shut_95 : decode cX5_shut 95 = .ok (.pop, 1) := by decide +kernel
theorem dX5_shut_96 : decode cX5_shut 96 = .ok (.aload_n 0, 1) := by decide +kernel
theorem dX5_shut_97 : decode cX5_shut 97 = .ok (.getfield 16, 3) := by decide +kernel
theorem dX5_shut_100 : decode cX5_shut 100 = .ok (.iload_n 1, 1) := by decide +kernel
theorem dX5_shut_101 : decode cX5_shut 101 = .ok (.invokevirtual 199, 3) := by decide +kernel
theorem dX5_shut_104 : decode cX5_shut 104 = .ok (.aload_n 0, 1) := by decide +kernel
theorem dX5_shut_105 : decode cX5_shut 105 = .ok (.getfield 16, 3) := by decide +kernel
theorem dX5_shut_108 : decode cX5_shut 108 = .ok (.getfield 96, 3) := by decide +kernel
theorem dX5_shut_111 : decode cX5_shut 111 = .ok (.iconst (-1), 1) := by decide +kernel
theorem dX5_shut_112 : decode cX5_shut 112 = .ok (.invokevirtual 100, 3) := by decide +kernel
theorem dX5_shut_115 : decode cX5_shut 115 = .ok (.istore 6, 2) := by decide +kernel
theorem dX5_shut_117 : decode cX5_shut 117 = .ok (.iload 6, 2) := by decide +kernel
theorem dX5_shut_119 : decode cX5_shut 119 = .ok (.iload_n 3, 1) := by decide +kernel
theorem dX5_shut_120 : decode cX5_shut 120 = .ok (.if_icmp .ge 10, 3) := by decide +kernel
theorem dX5_shut_123 : decode cX5_shut 123 = .ok (.iload 6, 2) := by decide +kernel
theorem dX5_shut_125 : decode cX5_shut 125 = .ok (.istore_n 3, 1) := by decide +kernel
theorem dX5_shut_126 : decode cX5_shut 126 = .ok (.iload 5, 2) := by decide +kernel
theorem dX5_shut_128 : decode cX5_shut 128 = .ok (.istore 4, 2) := by decide +kernel
theorem dX5_shut_130 : decode cX5_shut 130 = .ok (.iinc 5 1, 3) := by decide +kernel
theorem dX5_shut_133 : decode cX5_shut 133 = .ok (.goto (-91), 3) := by decide +kernel
theorem dX5_shut_136 : decode cX5_shut 136 = .ok (.iload 4, 2) := by decide +kernel
theorem dX5_shut_138 : decode cX5_shut 138 = .ok (.ireturn, 1) := by decide +kernel
theorem dX5_seats_0 : decode cX5_seats 0 = .ok (.iload_n 1, 1) := by decide +kernel
theorem dX5_seats_1 : decode cX5_seats 1 = .ok (.iconst 0, 1) := by decide +kernel
theorem dX5_seats_2 : decode cX5_seats 2 = .ok (.bipush 60, 2) := by decide +kernel
theorem dX5_seats_4 : decode cX5_seats 4 = .ok (.invokestatic 44, 3) := by decide +kernel
theorem dX5_seats_7 : decode cX5_seats 7 = .ok (.istore_n 2, 1) := by decide +kernel
theorem dX5_seats_8 : decode cX5_seats 8 = .ok (.iload_n 2, 1) := by decide +kernel
theorem dX5_seats_9 : decode cX5_seats 9 = .ok (.ifCond .eq 9, 3) := by decide +kernel
theorem dX5_seats_12 : decode cX5_seats 12 = .ok (.aload_n 0, 1) := by decide +kernel
theorem dX5_seats_13 : decode cX5_seats 13 = .ok (.iload_n 2, 1) := by decide +kernel
theorem dX5_seats_14 : decode cX5_seats 14 = .ok (.invokevirtual 48, 3) := by decide +kernel
theorem dX5_seats_17 : decode cX5_seats 17 = .ok (.ireturn, 1) := by decide +kernel
theorem dX5_seats_18 : decode cX5_seats 18 = .ok (.aload_n 0, 1) := by decide +kernel
theorem dX5_seats_19 : decode cX5_seats 19 = .ok (.iload_n 1, 1) := by decide +kernel
theorem dX5_seats_20 : decode cX5_seats 20 = .ok (.invokevirtual 175, 3) := by decide +kernel
theorem dX5_seats_23 : decode cX5_seats 23 = .ok (.aload_n 0, 1) := by decide +kernel
theorem dX5_seats_24 : decode cX5_seats 24 = .ok (.getfield 16, 3) := by decide +kernel
theorem dX5_seats_27 : decode cX5_seats 27 = .ok (.getfield 96, 3) := by decide +kernel
theorem dX5_seats_30 : decode cX5_seats 30 = .ok (.iconst (-1), 1) := by decide +kernel
theorem dX5_seats_31 : decode cX5_seats 31 = .ok (.invokevirtual 100, 3) := by decide +kernel
theorem dX5_seats_34 : decode cX5_seats 34 = .ok (.istore_n 3, 1) := by decide +kernel
theorem dX5_seats_35 : decode cX5_seats 35 = .ok (.bipush (-9), 2) := by decide +kernel
theorem dX5_seats_37 : decode cX5_seats 37 = .ok (.istore 4, 2) := by decide +kernel
theorem dX5_seats_39 : decode cX5_seats 39 = .ok (.iconst 0, 1) := by decide +kernel
theorem dX5_seats_40 : decode cX5_seats 40 = .ok (.istore 5, 2) := by decide +kernel
theorem dX5_seats_42 : decode cX5_seats 42 = .ok (.iload 5, 2) := by decide +kernel
theorem dX5_seats_44 : decode cX5_seats 44 = .ok (.aload_n 0, 1) := by decide +kernel
theorem dX5_seats_45 : decode cX5_seats 45 = .ok (.getfield 10, 3) := by decide +kernel
theorem dX5_seats_48 : decode cX5_seats 48 = .ok (.getfield 96, 3) := by decide +kernel
theorem dX5_seats_51 : decode cX5_seats 51 = .ok (.getfield 202, 3) := by decide +kernel
theorem dX5_seats_54 : decode cX5_seats 54 = .ok (.if_icmp .ge 101, 3) := by decide +kernel
theorem dX5_seats_57 : decode cX5_seats 57 = .ok (.iload 5, 2) := by decide +kernel
theorem dX5_seats_59 : decode cX5_seats 59 = .ok (.iconst 1, 1) := by decide +kernel
theorem dX5_seats_60 : decode cX5_seats 60 = .ok (.iadd, 1) := by decide +kernel
theorem dX5_seats_61 : decode cX5_seats 61 = .ok (.istore 6, 2) := by decide +kernel
theorem dX5_seats_63 : decode cX5_seats 63 = .ok (.iload 6, 2) := by decide +kernel
theorem dX5_seats_65 : decode cX5_seats 65 = .ok (.aload_n 0, 1) := by decide +kernel
theorem dX5_seats_66 : decode cX5_seats 66 = .ok (.getfield 10, 3) := by decide +kernel
theorem dX5_seats_69 : decode cX5_seats 69 = .ok (.getfield 96, 3) := by decide +kernel
theorem dX5_seats_72 : decode cX5_seats 72 = .ok (.getfield 202, 3) := by decide +kernel
theorem dX5_seats_75 : decode cX5_seats 75 = .ok (.if_icmp .ge 74, 3) := by decide +kernel
theorem dX5_seats_78 : decode cX5_seats 78 = .ok (.aload_n 0, 1) := by decide +kernel
theorem dX5_seats_79 : decode cX5_seats 79 = .ok (.getfield 16, 3) := by decide +kernel
theorem dX5_seats_82 : decode cX5_seats 82 = .ok (.aload_n 0, 1) := by decide +kernel
theorem dX5_seats_83 : decode cX5_seats 83 = .ok (.getfield 10, 3) := by decide +kernel
theorem dX5_seats_86 : decode cX5_seats 86 = .ok (.invokevirtual 181, 3) := by decide +kernel
theorem dX5_seats_89 : decode cX5_seats 89 = .ok (.aload_n 0, 1) := by decide +kernel
theorem dX5_seats_90 : decode cX5_seats 90 = .ok (.getfield 16, 3) := by decide +kernel
theorem dX5_seats_93 : decode cX5_seats 93 = .ok (.getfield 96, 3) := by decide +kernel
theorem dX5_seats_96 : decode cX5_seats 96 = .ok (.iload 5, 2) := by decide +kernel
theorem dX5_seats_98 : decode cX5_seats 98 = .ok (.iload 6, 2) := by decide +kernel
theorem dX5_seats_100 : decode cX5_seats 100 = .ok (.invokevirtual 203, 3) := by decide +kernel
theorem dX5_seats_103 : decode cX5_seats 103 = .ok (.aload_n 0, 1) := by decide +kernel
theorem dX5_seats_104 : decode cX5_seats 104 = .ok (.getfield 16, 3) := by decide +kernel
theorem dX5_seats_107 : decode cX5_seats 107 = .ok (.iload_n 1, 1) := by decide +kernel
theorem dX5_seats_108 : decode cX5_seats 108 = .ok (.invokevirtual 199, 3) := by decide +kernel
theorem dX5_seats_111 : decode cX5_seats 111 = .ok (.aload_n 0, 1) := by decide +kernel
theorem dX5_seats_112 : decode cX5_seats 112 = .ok (.getfield 16, 3) := by decide +kernel
theorem dX5_seats_115 : decode cX5_seats 115 = .ok (.getfield 96, 3) := by decide +kernel
theorem dX5_seats_118 : decode cX5_seats 118 = .ok (.iconst (-1), 1) := by decide +kernel
theorem dX5_seats_119 : decode cX5_seats 119 = .ok (.invokevirtual 100, 3) := by decide +kernel
theorem dX5_seats_122 : decode cX5_seats 122 = .ok (.istore 7, 2) := by decide +kernel
theorem dX5_seats_124 : decode cX5_seats 124 = .ok (.iload 7, 2) := by decide +kernel
theorem dX5_seats_126 : decode cX5_seats 126 = .ok (.iload_n 3, 1) := by decide +kernel
theorem dX5_seats_127 : decode cX5_seats 127 = .ok (.if_icmp .ge 16, 3) := by decide +kernel
theorem dX5_seats_130 : decode cX5_seats 130 = .ok (.iload 7, 2) := by decide +kernel
theorem dX5_seats_132 : decode cX5_seats 132 = .ok (.istore_n 3, 1) := by decide +kernel
theorem dX5_seats_133 : decode cX5_seats 133 = .ok (.bipush 10, 2) := by decide +kernel
theorem dX5_seats_135 : decode cX5_seats 135 = .ok (.iload 5, 2) := by decide +kernel
theorem dX5_seats_137 : decode cX5_seats 137 = .ok (.imul, 1) := by decide +kernel
theorem dX5_seats_138 : decode cX5_seats 138 = .ok (.iload 6, 2) := by decide +kernel
theorem dX5_seats_140 : decode cX5_seats 140 = .ok (.iadd, 1) := by decide +kernel
theorem dX5_seats_141 : decode cX5_seats 141 = .ok (.istore 4, 2) := by decide +kernel
theorem dX5_seats_143 : decode cX5_seats 143 = .ok (.iinc 6 1, 3) := by decide +kernel
theorem dX5_seats_146 : decode cX5_seats 146 = .ok (.goto (-83), 3) := by decide +kernel
theorem dX5_seats_149 : decode cX5_seats 149 = .ok (.iinc 5 1, 3) := by decide +kernel
theorem dX5_seats_152 : decode cX5_seats 152 = .ok (.goto (-110), 3) := by decide +kernel
theorem dX5_seats_155 : decode cX5_seats 155 = .ok (.iload 4, 2) := by decide +kernel
theorem dX5_seats_157 : decode cX5_seats 157 = .ok (.ireturn, 1) := by decide +kernel
theorem dX5_write_0 : decode cX5_write 0 = .ok (.iload_n 1, 1) := by decide +kernel
theorem dX5_write_1 : decode cX5_write 1 = .ok (.iload_n 2, 1) := by decide +kernel
theorem dX5_write_2 : decode cX5_write 2 = .ok (.invokestatic 206, 3) := by decide +kernel
theorem dX5_write_5 : decode cX5_write 5 = .ok (.istore 4, 2) := by decide +kernel
theorem dX5_write_7 : decode cX5_write 7 = .ok (.iload 4, 2) := by decide +kernel
theorem dX5_write_9 : decode cX5_write 9 = .ok (.ifCond .ne 20, 3) := by decide +kernel
theorem dX5_write_12 : decode cX5_write 12 = .ok (.aload_n 0, 1) := by decide +kernel
theorem dX5_write_13 : decode cX5_write 13 = .ok (.getfield 10, 3) := by decide +kernel
theorem dX5_write_16 : decode cX5_write 16 = .ok (.getfield 70, 3) := by decide +kernel
theorem dX5_write_19 : decode cX5_write 19 = .ok (.invokevirtual 209, 3) := by decide +kernel
theorem dX5_write_22 : decode cX5_write 22 = .ok (.ifCond .eq 7, 3) := by decide +kernel
theorem dX5_write_25 : decode cX5_write 25 = .ok (.bipush (-6), 2) := by decide +kernel
theorem dX5_write_27 : decode cX5_write 27 = .ok (.istore 4, 2) := by decide +kernel
theorem dX5_write_29 : decode cX5_write 29 = .ok (.iload 4, 2) := by decide +kernel
theorem dX5_write_31 : decode cX5_write 31 = .ok (.ifCond .ne 14, 3) := by decide +kernel
theorem dX5_write_34 : decode cX5_write 34 = .ok (.iload_n 3, 1) := by decide +kernel
theorem dX5_write_35 : decode cX5_write 35 = .ok (.invokestatic 172, 3) := by decide +kernel
theorem dX5_write_38 : decode cX5_write 38 = .ok (.ifCond .eq 7, 3) := by decide +kernel
theorem dX5_write_41 : decode cX5_write 41 = .ok (.bipush (-2), 2) := by decide +kernel
theorem dX5_write_43 : decode cX5_write 43 = .ok (.istore 4, 2) := by decide +kernel
theorem dX5_write_45 : decode cX5_write 45 = .ok (.iload 4, 2) := by decide +kernel
theorem dX5_write_47 : decode cX5_write 47 = .ok (.ifCond .ne 20, 3) := by decide +kernel
theorem dX5_write_50 : decode cX5_write 50 = .ok (.aload_n 0, 1) := by decide +kernel
theorem dX5_write_51 : decode cX5_write 51 = .ok (.getfield 10, 3) := by decide +kernel
theorem dX5_write_54 : decode cX5_write 54 = .ok (.getfield 96, 3) := by decide +kernel
theorem dX5_write_57 : decode cX5_write 57 = .ok (.getfield 202, 3) := by decide +kernel
theorem dX5_write_60 : decode cX5_write 60 = .ok (.ifCond .ne 7, 3) := by decide +kernel
theorem dX5_write_63 : decode cX5_write 63 = .ok (.bipush (-3), 2) := by decide +kernel
theorem dX5_write_65 : decode cX5_write 65 = .ok (.istore 4, 2) := by decide +kernel
theorem dX5_write_67 : decode cX5_write 67 = .ok (.iload 4, 2) := by decide +kernel
theorem dX5_write_69 : decode cX5_write 69 = .ok (.ifCond .eq 10, 3) := by decide +kernel
theorem dX5_write_72 : decode cX5_write 72 = .ok (.aload_n 0, 1) := by decide +kernel
theorem dX5_write_73 : decode cX5_write 73 = .ok (.iload 4, 2) := by decide +kernel
theorem dX5_write_75 : decode cX5_write 75 = .ok (.invokevirtual 48, 3) := by decide +kernel
theorem dX5_write_78 : decode cX5_write 78 = .ok (.ireturn, 1) := by decide +kernel
theorem dX5_write_79 : decode cX5_write 79 = .ok (.iconst (-1), 1) := by decide +kernel
theorem dX5_write_80 : decode cX5_write 80 = .ok (.istore 5, 2) := by decide +kernel
theorem dX5_write_82 : decode cX5_write 82 = .ok (.bipush (-9), 2) := by decide +kernel
theorem dX5_write_84 : decode cX5_write 84 = .ok (.istore 6, 2) := by decide +kernel
theorem dX5_write_86 : decode cX5_write 86 = .ok (.iconst 0, 1) := by decide +kernel
theorem dX5_write_87 : decode cX5_write 87 = .ok (.istore 7, 2) := by decide +kernel
theorem dX5_write_89 : decode cX5_write 89 = .ok (.iload 7, 2) := by decide +kernel
theorem dX5_write_91 : decode cX5_write 91 = .ok (.bipush 6, 2) := by decide +kernel
theorem dX5_write_93 : decode cX5_write 93 = .ok (.if_icmp .ge 58, 3) := by decide +kernel
theorem dX5_write_96 : decode cX5_write 96 = .ok (.iconst 0, 1) := by decide +kernel
theorem dX5_write_97 : decode cX5_write 97 = .ok (.istore 8, 2) := by decide +kernel
theorem dX5_write_99 : decode cX5_write 99 = .ok (.iload 8, 2) := by decide +kernel
theorem dX5_write_101 : decode cX5_write 101 = .ok (.bipush 9, 2) := by decide +kernel
theorem dX5_write_103 : decode cX5_write 103 = .ok (.if_icmp .gt 42, 3) := by decide +kernel
theorem dX5_write_106 : decode cX5_write 106 = .ok (.aload_n 0, 1) := by decide +kernel
theorem dX5_write_107 : decode cX5_write 107 = .ok (.iload 7, 2) := by decide +kernel
theorem dX5_write_109 : decode cX5_write 109 = .ok (.iload 8, 2) := by decide +kernel
theorem dX5_write_111 : decode cX5_write 111 = .ok (.iload_n 1, 1) := by decide +kernel
theorem dX5_write_112 : decode cX5_write 112 = .ok (.iload_n 2, 1) := by decide +kernel
theorem dX5_write_113 : decode cX5_write 113 = .ok (.invokevirtual 210, 3) := by decide +kernel
theorem dX5_write_116 : decode cX5_write 116 = .ok (.istore 9, 2) := by decide +kernel
theorem dX5_write_118 : decode cX5_write 118 = .ok (.iload 9, 2) := by decide +kernel
theorem dX5_write_120 : decode cX5_write 120 = .ok (.iload 5, 2) := by decide +kernel
theorem dX5_write_122 : decode cX5_write 122 = .ok (.if_icmp .le 17, 3) := by decide +kernel
theorem dX5_write_125 : decode cX5_write 125 = .ok (.iload 9, 2) := by decide +kernel
theorem dX5_write_127 : decode cX5_write 127 = .ok (.istore 5, 2) := by decide +kernel
theorem dX5_write_129 : decode cX5_write 129 = .ok (.bipush 10, 2) := by decide +kernel
theorem dX5_write_131 : decode cX5_write 131 = .ok (.iload 7, 2) := by decide +kernel
theorem dX5_write_133 : decode cX5_write 133 = .ok (.imul, 1) := by decide +kernel
theorem dX5_write_134 : decode cX5_write 134 = .ok (.iload 8, 2) := by decide +kernel
theorem dX5_write_136 : decode cX5_write 136 = .ok (.iadd, 1) := by decide +kernel
theorem dX5_write_137 : decode cX5_write 137 = .ok (.istore 6, 2) := by decide +kernel
theorem dX5_write_139 : decode cX5_write 139 = .ok (.iinc 8 1, 3) := by decide +kernel
theorem dX5_write_142 : decode cX5_write 142 = .ok (.goto (-43), 3) := by decide +kernel
theorem dX5_write_145 : decode cX5_write 145 = .ok (.iinc 7 1, 3) := by decide +kernel
theorem dX5_write_148 : decode cX5_write 148 = .ok (.goto (-59), 3) := by decide +kernel
theorem dX5_write_151 : decode cX5_write 151 = .ok (.iload_n 3, 1) := by decide +kernel
theorem dX5_write_152 : decode cX5_write 152 = .ok (.ifCond .ne 8, 3) := by decide +kernel
theorem dX5_write_155 : decode cX5_write 155 = .ok (.iload 6, 2) := by decide +kernel
theorem dX5_write_157 : decode cX5_write 157 = .ok (.goto 5, 3) := by decide +kernel
theorem dX5_write_160 : decode cX5_write 160 = .ok (.iload 5, 2) := by decide +kernel
theorem dX5_write_162 : decode cX5_write 162 = .ok (.ireturn, 1) := by decide +kernel
theorem dX5_row_0 : decode cX5_row 0 = .ok (.iload_n 1, 1) := by decide +kernel
theorem dX5_row_1 : decode cX5_row 1 = .ok (.iconst 0, 1) := by decide +kernel
theorem dX5_row_2 : decode cX5_row 2 = .ok (.bipush 9, 2) := by decide +kernel
theorem dX5_row_4 : decode cX5_row 4 = .ok (.invokestatic 44, 3) := by decide +kernel
theorem dX5_row_7 : decode cX5_row 7 = .ok (.istore_n 2, 1) := by decide +kernel
theorem dX5_row_8 : decode cX5_row 8 = .ok (.iload_n 2, 1) := by decide +kernel
theorem dX5_row_9 : decode cX5_row 9 = .ok (.ifCond .eq 9, 3) := by decide +kernel
theorem dX5_row_12 : decode cX5_row 12 = .ok (.aload_n 0, 1) := by decide +kernel
theorem dX5_row_13 : decode cX5_row 13 = .ok (.iload_n 2, 1) := by decide +kernel
theorem dX5_row_14 : decode cX5_row 14 = .ok (.invokevirtual 48, 3) := by decide +kernel
theorem dX5_row_17 : decode cX5_row 17 = .ok (.ireturn, 1) := by decide +kernel
theorem dX5_row_18 : decode cX5_row 18 = .ok (.aload_n 0, 1) := by decide +kernel
theorem dX5_row_19 : decode cX5_row 19 = .ok (.getfield 37, 3) := by decide +kernel
theorem dX5_row_22 : decode cX5_row 22 = .ok (.bipush 6, 2) := by decide +kernel
theorem dX5_row_24 : decode cX5_row 24 = .ok (.if_icmp .lt 10, 3) := by decide +kernel
theorem dX5_row_27 : decode cX5_row 27 = .ok (.aload_n 0, 1) := by decide +kernel
theorem dX5_row_28 : decode cX5_row 28 = .ok (.bipush (-6), 2) := by decide +kernel
theorem dX5_row_30 : decode cX5_row 30 = .ok (.invokevirtual 48, 3) := by decide +kernel
theorem dX5_row_33 : decode cX5_row 33 = .ok (.ireturn, 1) := by decide +kernel
theorem dX5_row_34 : decode cX5_row 34 = .ok (.aload_n 0, 1) := by decide +kernel
theorem dX5_row_35 : decode cX5_row 35 = .ok (.getfield 33, 3) := by decide +kernel
theorem dX5_row_38 : decode cX5_row 38 = .ok (.aload_n 0, 1) := by decide +kernel
theorem dX5_row_39 : decode cX5_row 39 = .ok (.getfield 37, 3) := by decide +kernel
theorem dX5_row_42 : decode cX5_row 42 = .ok (.iload_n 1, 1) := by decide +kernel
theorem dX5_row_43 : decode cX5_row 43 = .ok (.invokestatic 151, 3) := by decide +kernel
theorem dX5_row_46 : decode cX5_row 46 = .ok (.aload_n 0, 1) := by decide +kernel
theorem dX5_row_47 : decode cX5_row 47 = .ok (.dup, 1) := by decide +kernel
theorem dX5_row_48 : decode cX5_row 48 = .ok (.getfield 37, 3) := by decide +kernel
theorem dX5_row_51 : decode cX5_row 51 = .ok (.iconst 1, 1) := by decide +kernel
theorem dX5_row_52 : decode cX5_row 52 = .ok (.iadd, 1) := by decide +kernel
theorem dX5_row_53 : decode cX5_row 53 = .ok (.putfield 37, 3) := by decide +kernel
theorem dX5_row_56 : decode cX5_row 56 = .ok (.aload_n 0, 1) := by decide +kernel
theorem dX5_row_57 : decode cX5_row 57 = .ok (.getfield 37, 3) := by decide +kernel
theorem dX5_row_60 : decode cX5_row 60 = .ok (.ireturn, 1) := by decide +kernel
theorem dX5_otherwise_0 : decode cX5_otherwise 0 = .ok (.iload_n 1, 1) := by decide +kernel
theorem dX5_otherwise_1 : decode cX5_otherwise 1 = .ok (.iconst 0, 1) := by decide +kernel
theorem dX5_otherwise_2 : decode cX5_otherwise 2 = .ok (.bipush 60, 2) := by decide +kernel
theorem dX5_otherwise_4 : decode cX5_otherwise 4 = .ok (.invokestatic 44, 3) := by decide +kernel
theorem dX5_otherwise_7 : decode cX5_otherwise 7 = .ok (.istore_n 3, 1) := by decide +kernel
theorem dX5_otherwise_8 : decode cX5_otherwise 8 = .ok (.iload_n 3, 1) := by decide +kernel
theorem dX5_otherwise_9 : decode cX5_otherwise 9 = .ok (.ifCond .ne 13, 3) := by decide +kernel
theorem dX5_otherwise_12 : decode cX5_otherwise 12 = .ok (.iload_n 2, 1) := by decide +kernel
theorem dX5_otherwise_13 : decode cX5_otherwise 13 = .ok (.invokestatic 172, 3) := by decide +kernel
theorem dX5_otherwise_16 : decode cX5_otherwise 16 = .ok (.ifCond .eq 6, 3) := by decide +kernel
theorem dX5_otherwise_19 : decode cX5_otherwise 19 = .ok (.bipush (-2), 2) := by decide +kernel
theorem dX5_otherwise_21 : decode cX5_otherwise 21 = .ok (.istore_n 3, 1) := by decide +kernel
theorem dX5_otherwise_22 : decode cX5_otherwise 22 = .ok (.iload_n 3, 1) := by decide +kernel
theorem dX5_otherwise_23 : decode cX5_otherwise 23 = .ok (.ifCond .ne 23, 3) := by decide +kernel
theorem dX5_otherwise_26 : decode cX5_otherwise 26 = .ok (.aload_n 0, 1) := by decide +kernel
theorem dX5_otherwise_27 : decode cX5_otherwise 27 = .ok (.getfield 37, 3) := by decide +kernel
theorem dX5_otherwise_30 : decode cX5_otherwise 30 = .ok (.aload_n 0, 1) := by decide +kernel
theorem dX5_otherwise_31 : decode cX5_otherwise 31 = .ok (.getfield 10, 3) := by decide +kernel
theorem dX5_otherwise_34 : decode cX5_otherwise 34 = .ok (.getfield 96, 3) := by decide +kernel
theorem dX5_otherwise_37 : decode cX5_otherwise 37 = .ok (.getfield 202, 3) := by decide +kernel
theorem dX5_otherwise_40 : decode cX5_otherwise 40 = .ok (.if_icmp .eq 6, 3) := by decide +kernel
theorem dX5_otherwise_43 : decode cX5_otherwise 43 = .ok (.bipush (-3), 2) := by decide +kernel
theorem dX5_otherwise_45 : decode cX5_otherwise 45 = .ok (.istore_n 3, 1) := by decide +kernel
theorem dX5_otherwise_46 : decode cX5_otherwise 46 = .ok (.iload_n 3, 1) := by decide +kernel
theorem dX5_otherwise_47 : decode cX5_otherwise 47 = .ok (.ifCond .eq 9, 3) := by decide +kernel
theorem dX5_otherwise_50 : decode cX5_otherwise 50 = .ok (.aload_n 0, 1) := by decide +kernel
theorem dX5_otherwise_51 : decode cX5_otherwise 51 = .ok (.iload_n 3, 1) := by decide +kernel
theorem dX5_otherwise_52 : decode cX5_otherwise 52 = .ok (.invokevirtual 48, 3) := by decide +kernel
theorem dX5_otherwise_55 : decode cX5_otherwise 55 = .ok (.ireturn, 1) := by decide +kernel
theorem dX5_otherwise_56 : decode cX5_otherwise 56 = .ok (.iconst 0, 1) := by decide +kernel
theorem dX5_otherwise_57 : decode cX5_otherwise 57 = .ok (.istore 4, 2) := by decide +kernel
theorem dX5_otherwise_59 : decode cX5_otherwise 59 = .ok (.bipush (-9), 2) := by decide +kernel
theorem dX5_otherwise_61 : decode cX5_otherwise 61 = .ok (.istore 5, 2) := by decide +kernel
theorem dX5_otherwise_63 : decode cX5_otherwise 63 = .ok (.iconst 0, 1) := by decide +kernel
theorem dX5_otherwise_64 : decode cX5_otherwise 64 = .ok (.istore 6, 2) := by decide +kernel
theorem dX5_otherwise_66 : decode cX5_otherwise 66 = .ok (.iload 6, 2) := by decide +kernel
theorem dX5_otherwise_68 : decode cX5_otherwise 68 = .ok (.aload_n 0, 1) := by decide +kernel
theorem dX5_otherwise_69 : decode cX5_otherwise 69 = .ok (.getfield 10, 3) := by decide +kernel
theorem dX5_otherwise_72 : decode cX5_otherwise 72 = .ok (.getfield 96, 3) := by decide +kernel
theorem dX5_otherwise_75 : decode cX5_otherwise 75 = .ok (.getfield 202, 3) := by decide +kernel
theorem dX5_otherwise_78 : decode cX5_otherwise 78 = .ok (.if_icmp .ge 112, 3) := by decide +kernel
theorem dX5_otherwise_81 : decode cX5_otherwise 81 = .ok (.iconst 0, 1) := by decide +kernel
theorem dX5_otherwise_82 : decode cX5_otherwise 82 = .ok (.istore 7, 2) := by decide +kernel
theorem dX5_otherwise_84 : decode cX5_otherwise 84 = .ok (.iload 7, 2) := by decide +kernel
theorem dX5_otherwise_86 : decode cX5_otherwise 86 = .ok (.aload_n 0, 1) := by decide +kernel
theorem dX5_otherwise_87 : decode cX5_otherwise 87 = .ok (.getfield 10, 3) := by decide +kernel
theorem dX5_otherwise_90 : decode cX5_otherwise 90 = .ok (.getfield 70, 3) := by decide +kernel
theorem dX5_otherwise_93 : decode cX5_otherwise 93 = .ok (.getfield 185, 3) := by decide +kernel
theorem dX5_otherwise_96 : decode cX5_otherwise 96 = .ok (.if_icmp .gt 88, 3) := by decide +kernel
theorem dX5_otherwise_99 : decode cX5_otherwise 99 = .ok (.iload 7, 2) := by decide +kernel
theorem dX5_otherwise_101 : decode cX5_otherwise 101 = .ok (.aload_n 0, 1) := by decide +kernel
theorem dX5_otherwise_102 : decode cX5_otherwise 102 = .ok (.getfield 10, 3) := by decide +kernel
theorem dX5_otherwise_105 : decode cX5_otherwise 105 = .ok (.getfield 70, 3) := by decide +kernel
theorem dX5_otherwise_108 : decode cX5_otherwise 108 = .ok (.getfield 185, 3) := by decide +kernel
theorem dX5_otherwise_111 : decode cX5_otherwise 111 = .ok (.if_icmp .ge 8, 3) := by decide +kernel
theorem dX5_otherwise_114 : decode cX5_otherwise 114 = .ok (.iload 7, 2) := by decide +kernel
theorem dX5_otherwise_116 : decode cX5_otherwise 116 = .ok (.goto 5, 3) := by decide +kernel
theorem dX5_otherwise_119 : decode cX5_otherwise 119 = .ok (.bipush (-9), 2) := by decide +kernel
theorem dX5_otherwise_121 : decode cX5_otherwise 121 = .ok (.istore 8, 2) := by decide +kernel
theorem dX5_otherwise_123 : decode cX5_otherwise 123 = .ok (.iload 8, 2) := by decide +kernel
theorem dX5_otherwise_125 : decode cX5_otherwise 125 = .ok (.aload_n 0, 1) := by decide +kernel
theorem dX5_otherwise_126 : decode cX5_otherwise 126 = .ok (.getfield 10, 3) := by decide +kernel
theorem dX5_otherwise_129 : decode cX5_otherwise 129 = .ok (.getfield 96, 3) := by decide +kernel
theorem dX5_otherwise_132 : decode cX5_otherwise 132 = .ok (.getfield 113, 3) := by decide +kernel
theorem dX5_otherwise_135 : decode cX5_otherwise 135 = .ok (.iload 6, 2) := by decide +kernel
theorem dX5_otherwise_137 : decode cX5_otherwise 137 = .ok (.invokestatic 83, 3) := by decide +kernel
theorem dX5_otherwise_140 : decode cX5_otherwise 140 = .ok (.if_icmp .eq 38, 3) := by decide +kernel
theorem dX5_otherwise_143 : decode cX5_otherwise 143 = .ok (.aload_n 0, 1) := by decide +kernel
theorem dX5_otherwise_144 : decode cX5_otherwise 144 = .ok (.iload 6, 2) := by decide +kernel
theorem dX5_otherwise_146 : decode cX5_otherwise 146 = .ok (.iload 8, 2) := by decide +kernel
theorem dX5_otherwise_148 : decode cX5_otherwise 148 = .ok (.iload_n 1, 1) := by decide +kernel
theorem dX5_otherwise_149 : decode cX5_otherwise 149 = .ok (.invokevirtual 214, 3) := by decide +kernel
theorem dX5_otherwise_152 : decode cX5_otherwise 152 = .ok (.ifCond .eq 26, 3) := by decide +kernel
theorem dX5_otherwise_155 : decode cX5_otherwise 155 = .ok (.iinc 4 1, 3) := by decide +kernel
theorem dX5_otherwise_158 : decode cX5_otherwise 158 = .ok (.iload 5, 2) := by decide +kernel
theorem dX5_otherwise_160 : decode cX5_otherwise 160 = .ok (.bipush (-9), 2) := by decide +kernel
theorem dX5_otherwise_162 : decode cX5_otherwise 162 = .ok (.if_icmp .ne 16, 3) := by decide +kernel
theorem dX5_otherwise_165 : decode cX5_otherwise 165 = .ok (.bipush 10, 2) := by decide +kernel
theorem dX5_otherwise_167 : decode cX5_otherwise 167 = .ok (.iload 6, 2) := by decide +kernel
theorem dX5_otherwise_169 : decode cX5_otherwise 169 = .ok (.imul, 1) := by decide +kernel
theorem dX5_otherwise_170 : decode cX5_otherwise 170 = .ok (.iload 8, 2) := by decide +kernel
theorem dX5_otherwise_172 : decode cX5_otherwise 172 = .ok (.invokestatic 217, 3) := by decide +kernel
theorem dX5_otherwise_175 : decode cX5_otherwise 175 = .ok (.iadd, 1) := by decide +kernel
theorem dX5_otherwise_176 : decode cX5_otherwise 176 = .ok (.istore 5, 2) := by decide +kernel
theorem dX5_otherwise_178 : decode cX5_otherwise 178 = .ok (.iinc 7 1, 3) := by decide +kernel
theorem dX5_otherwise_181 : decode cX5_otherwise 181 = .ok (.goto (-97), 3) := by decide +kernel
theorem dX5_otherwise_184 : decode cX5_otherwise 184 = .ok (.iinc 6 1, 3) := by decide +kernel
theorem dX5_otherwise_187 : decode cX5_otherwise 187 = .ok (.goto (-121), 3) := by decide +kernel
theorem dX5_otherwise_190 : decode cX5_otherwise 190 = .ok (.iload_n 2, 1) := by decide +kernel
theorem dX5_otherwise_191 : decode cX5_otherwise 191 = .ok (.ifCond .ne 8, 3) := by decide +kernel
theorem dX5_otherwise_194 : decode cX5_otherwise 194 = .ok (.iload 4, 2) := by decide +kernel
theorem dX5_otherwise_196 : decode cX5_otherwise 196 = .ok (.goto 5, 3) := by decide +kernel
theorem dX5_otherwise_199 : decode cX5_otherwise 199 = .ok (.iload 5, 2) := by decide +kernel
theorem dX5_otherwise_201 : decode cX5_otherwise 201 = .ok (.ireturn, 1) := by decide +kernel
theorem dX5_judge_0 : decode cX5_judge 0 = .ok (.aload_n 0, 1) := by decide +kernel
theorem dX5_judge_1 : decode cX5_judge 1 = .ok (.getfield 37, 3) := by decide +kernel
theorem dX5_judge_4 : decode cX5_judge 4 = .ok (.aload_n 0, 1) := by decide +kernel
theorem dX5_judge_5 : decode cX5_judge 5 = .ok (.getfield 10, 3) := by decide +kernel
theorem dX5_judge_8 : decode cX5_judge 8 = .ok (.getfield 96, 3) := by decide +kernel
theorem dX5_judge_11 : decode cX5_judge 11 = .ok (.getfield 202, 3) := by decide +kernel
theorem dX5_judge_14 : decode cX5_judge 14 = .ok (.invokestatic 220, 3) := by decide +kernel
theorem dX5_judge_17 : decode cX5_judge 17 = .ok (.istore_n 1, 1) := by decide +kernel
theorem dX5_judge_18 : decode cX5_judge 18 = .ok (.aload_n 0, 1) := by decide +kernel
theorem dX5_judge_19 : decode cX5_judge 19 = .ok (.aload_n 0, 1) := by decide +kernel
theorem dX5_judge_20 : decode cX5_judge 20 = .ok (.getfield 10, 3) := by decide +kernel
theorem dX5_judge_23 : decode cX5_judge 23 = .ok (.getfield 96, 3) := by decide +kernel
theorem dX5_judge_26 : decode cX5_judge 26 = .ok (.iload_n 1, 1) := by decide +kernel
theorem dX5_judge_27 : decode cX5_judge 27 = .ok (.invokevirtual 225, 3) := by decide +kernel
theorem dX5_judge_30 : decode cX5_judge 30 = .ok (.istore_n 2, 1) := by decide +kernel
theorem dX5_judge_31 : decode cX5_judge 31 = .ok (.aload_n 0, 1) := by decide +kernel
theorem dX5_judge_32 : decode cX5_judge 32 = .ok (.getfield 37, 3) := by decide +kernel
theorem dX5_judge_35 : decode cX5_judge 35 = .ok (.aload_n 0, 1) := by decide +kernel
theorem dX5_judge_36 : decode cX5_judge 36 = .ok (.getfield 10, 3) := by decide +kernel
theorem dX5_judge_39 : decode cX5_judge 39 = .ok (.getfield 96, 3) := by decide +kernel
theorem dX5_judge_42 : decode cX5_judge 42 = .ok (.getfield 202, 3) := by decide +kernel
theorem dX5_judge_45 : decode cX5_judge 45 = .ok (.if_icmp .ne 7, 3) := by decide +kernel
theorem dX5_judge_48 : decode cX5_judge 48 = .ok (.iconst 1, 1) := by decide +kernel
theorem dX5_judge_49 : decode cX5_judge 49 = .ok (.goto 4, 3) := by decide +kernel
theorem dX5_judge_52 : decode cX5_judge 52 = .ok (.iconst 0, 1) := by decide +kernel
theorem dX5_judge_53 : decode cX5_judge 53 = .ok (.istore_n 3, 1) := by decide +kernel
theorem dX5_judge_54 : decode cX5_judge 54 = .ok (.aload_n 0, 1) := by decide +kernel
theorem dX5_judge_55 : decode cX5_judge 55 = .ok (.iconst 0, 1) := by decide +kernel
theorem dX5_judge_56 : decode cX5_judge 56 = .ok (.putfield 37, 3) := by decide +kernel
theorem dX5_judge_59 : decode cX5_judge 59 = .ok (.iload_n 2, 1) := by decide +kernel
theorem dX5_judge_60 : decode cX5_judge 60 = .ok (.bipush (-9), 2) := by decide +kernel
theorem dX5_judge_62 : decode cX5_judge 62 = .ok (.if_icmp .ne 7, 3) := by decide +kernel
theorem dX5_judge_65 : decode cX5_judge 65 = .ok (.iload_n 3, 1) := by decide +kernel
theorem dX5_judge_66 : decode cX5_judge 66 = .ok (.ifCond .eq 5, 3) := by decide +kernel
theorem dX5_judge_69 : decode cX5_judge 69 = .ok (.iload_n 2, 1) := by decide +kernel
theorem dX5_judge_70 : decode cX5_judge 70 = .ok (.ireturn, 1) := by decide +kernel
theorem dX5_judge_71 : decode cX5_judge 71 = .ok (.iload_n 1, 1) := by decide +kernel
theorem dX5_judge_72 : decode cX5_judge 72 = .ok (.ireturn, 1) := by decide +kernel
theorem dX5_seeds_0 : decode cX5_seeds 0 = .ok (.iload_n 1, 1) := by decide +kernel
theorem dX5_seeds_1 : decode cX5_seeds 1 = .ok (.iconst 1, 1) := by decide +kernel
theorem dX5_seeds_2 : decode cX5_seeds 2 = .ok (.bipush 40, 2) := by decide +kernel
theorem dX5_seeds_4 : decode cX5_seeds 4 = .ok (.invokestatic 44, 3) := by decide +kernel
theorem dX5_seeds_7 : decode cX5_seeds 7 = .ok (.istore_n 3, 1) := by decide +kernel
theorem dX5_seeds_8 : decode cX5_seeds 8 = .ok (.iload_n 3, 1) := by decide +kernel
theorem dX5_seeds_9 : decode cX5_seeds 9 = .ok (.ifCond .eq 9, 3) := by decide +kernel
theorem dX5_seeds_12 : decode cX5_seeds 12 = .ok (.aload_n 0, 1) := by decide +kernel
theorem dX5_seeds_13 : decode cX5_seeds 13 = .ok (.iload_n 3, 1) := by decide +kernel
theorem dX5_seeds_14 : decode cX5_seeds 14 = .ok (.invokevirtual 48, 3) := by decide +kernel
theorem dX5_seeds_17 : decode cX5_seeds 17 = .ok (.ireturn, 1) := by decide +kernel
theorem dX5_seeds_18 : decode cX5_seeds 18 = .ok (.aload_n 0, 1) := by decide +kernel
theorem dX5_seeds_19 : decode cX5_seeds 19 = .ok (.getfield 16, 3) := by decide +kernel
theorem dX5_seeds_22 : decode cX5_seeds 22 = .ok (.aload_n 0, 1) := by decide +kernel
theorem dX5_seeds_23 : decode cX5_seeds 23 = .ok (.getfield 10, 3) := by decide +kernel
theorem dX5_seeds_26 : decode cX5_seeds 26 = .ok (.invokevirtual 181, 3) := by decide +kernel
theorem dX5_seeds_29 : decode cX5_seeds 29 = .ok (.iload_n 2, 1) := by decide +kernel
theorem dX5_seeds_30 : decode cX5_seeds 30 = .ok (.istore 4, 2) := by decide +kernel
theorem dX5_seeds_32 : decode cX5_seeds 32 = .ok (.iconst 0, 1) := by decide +kernel
theorem dX5_seeds_33 : decode cX5_seeds 33 = .ok (.istore 5, 2) := by decide +kernel
theorem dX5_seeds_35 : decode cX5_seeds 35 = .ok (.iload 5, 2) := by decide +kernel
theorem dX5_seeds_37 : decode cX5_seeds 37 = .ok (.iload_n 1, 1) := by decide +kernel
theorem dX5_seeds_38 : decode cX5_seeds 38 = .ok (.if_icmp .ge 77, 3) := by decide +kernel
theorem dX5_seeds_41 : decode cX5_seeds 41 = .ok (.iconst 0, 1) := by decide +kernel
theorem dX5_seeds_42 : decode cX5_seeds 42 = .ok (.istore 6, 2) := by decide +kernel
theorem dX5_seeds_44 : decode cX5_seeds 44 = .ok (.iload 6, 2) := by decide +kernel
theorem dX5_seeds_46 : decode cX5_seeds 46 = .ok (.aload_n 0, 1) := by decide +kernel
theorem dX5_seeds_47 : decode cX5_seeds 47 = .ok (.getfield 16, 3) := by decide +kernel
theorem dX5_seeds_50 : decode cX5_seeds 50 = .ok (.getfield 96, 3) := by decide +kernel
theorem dX5_seeds_53 : decode cX5_seeds 53 = .ok (.getfield 202, 3) := by decide +kernel
theorem dX5_seeds_56 : decode cX5_seeds 56 = .ok (.if_icmp .ge 45, 3) := by decide +kernel
theorem dX5_seeds_59 : decode cX5_seeds 59 = .ok (.iload 4, 2) := by decide +kernel
theorem dX5_seeds_61 : decode cX5_seeds 61 = .ok (.ldc 229, 2) := by decide +kernel
theorem dX5_seeds_63 : decode cX5_seeds 63 = .ok (.imul, 1) := by decide +kernel
theorem dX5_seeds_64 : decode cX5_seeds 64 = .ok (.ldc 230, 2) := by decide +kernel
theorem dX5_seeds_66 : decode cX5_seeds 66 = .ok (.iadd, 1) := by decide +kernel
theorem dX5_seeds_67 : decode cX5_seeds 67 = .ok (.istore 4, 2) := by decide +kernel
theorem dX5_seeds_69 : decode cX5_seeds 69 = .ok (.aload_n 0, 1) := by decide +kernel
theorem dX5_seeds_70 : decode cX5_seeds 70 = .ok (.getfield 16, 3) := by decide +kernel
theorem dX5_seeds_73 : decode cX5_seeds 73 = .ok (.getfield 96, 3) := by decide +kernel
theorem dX5_seeds_76 : decode cX5_seeds 76 = .ok (.getfield 107, 3) := by decide +kernel
theorem dX5_seeds_79 : decode cX5_seeds 79 = .ok (.iload 6, 2) := by decide +kernel
theorem dX5_seeds_81 : decode cX5_seeds 81 = .ok (.iload 4, 2) := by decide +kernel
theorem dX5_seeds_83 : decode cX5_seeds 83 = .ok (.ldc 233, 2) := by decide +kernel
theorem dX5_seeds_85 : decode cX5_seeds 85 = .ok (.iand, 1) := by decide +kernel
theorem dX5_seeds_86 : decode cX5_seeds 86 = .ok (.sipush 256, 3) := by decide +kernel
theorem dX5_seeds_89 : decode cX5_seeds 89 = .ok (.idiv, 1) := by decide +kernel
theorem dX5_seeds_90 : decode cX5_seeds 90 = .ok (.iconst 5, 1) := by decide +kernel
theorem dX5_seeds_91 : decode cX5_seeds 91 = .ok (.irem, 1) := by decide +kernel
theorem dX5_seeds_92 : decode cX5_seeds 92 = .ok (.invokestatic 151, 3) := by decide +kernel
theorem dX5_seeds_95 : decode cX5_seeds 95 = .ok (.iinc 6 1, 3) := by decide +kernel
theorem dX5_seeds_98 : decode cX5_seeds 98 = .ok (.goto (-54), 3) := by decide +kernel
theorem dX5_seeds_101 : decode cX5_seeds 101 = .ok (.aload_n 0, 1) := by decide +kernel
theorem dX5_seeds_102 : decode cX5_seeds 102 = .ok (.getfield 16, 3) := by decide +kernel
theorem dX5_seeds_105 : decode cX5_seeds 105 = .ok (.invokevirtual 165, 3) := by decide +kernel
theorem dX5_seeds_108 : decode cX5_seeds 108 = .ok (.pop, 1) := by decide +kernel
theorem dX5_seeds_109 : decode cX5_seeds 109 = .ok (.iinc 5 1, 3) := by decide +kernel
theorem dX5_seeds_112 : decode cX5_seeds 112 = .ok (.goto (-77), 3) := by decide +kernel
theorem dX5_seeds_115 : decode cX5_seeds 115 = .ok (.aload_n 0, 1) := by decide +kernel
theorem dX5_seeds_116 : decode cX5_seeds 116 = .ok (.getfield 16, 3) := by decide +kernel
theorem dX5_seeds_119 : decode cX5_seeds 119 = .ok (.getfield 96, 3) := by decide +kernel
theorem dX5_seeds_122 : decode cX5_seeds 122 = .ok (.iconst (-1), 1) := by decide +kernel
theorem dX5_seeds_123 : decode cX5_seeds 123 = .ok (.invokevirtual 100, 3) := by decide +kernel
theorem dX5_seeds_126 : decode cX5_seeds 126 = .ok (.ireturn, 1) := by decide +kernel
theorem dX5_image_0 : decode cX5_image 0 = .ok (.aload_n 0, 1) := by decide +kernel
theorem dX5_image_1 : decode cX5_image 1 = .ok (.getfield 19, 3) := by decide +kernel
theorem dX5_image_4 : decode cX5_image 4 = .ok (.aload_n 0, 1) := by decide +kernel
theorem dX5_image_5 : decode cX5_image 5 = .ok (.getfield 10, 3) := by decide +kernel
theorem dX5_image_8 : decode cX5_image 8 = .ok (.invokevirtual 181, 3) := by decide +kernel
theorem dX5_image_11 : decode cX5_image 11 = .ok (.aload_n 0, 1) := by decide +kernel
theorem dX5_image_12 : decode cX5_image 12 = .ok (.iconst 1, 1) := by decide +kernel
theorem dX5_image_13 : decode cX5_image 13 = .ok (.putfield 22, 3) := by decide +kernel
theorem dX5_image_16 : decode cX5_image 16 = .ok (.aload_n 0, 1) := by decide +kernel
theorem dX5_image_17 : decode cX5_image 17 = .ok (.getfield 10, 3) := by decide +kernel
theorem dX5_image_20 : decode cX5_image 20 = .ok (.getfield 128, 3) := by decide +kernel
theorem dX5_image_23 : decode cX5_image 23 = .ok (.ireturn, 1) := by decide +kernel
theorem dX5_on_0 : decode cX5_on 0 = .ok (.aload_n 0, 1) := by decide +kernel
theorem dX5_on_1 : decode cX5_on 1 = .ok (.getfield 22, 3) := by decide +kernel
theorem dX5_on_4 : decode cX5_on 4 = .ok (.ifCond .ne 10, 3) := by decide +kernel
theorem dX5_on_7 : decode cX5_on 7 = .ok (.aload_n 0, 1) := by decide +kernel
theorem dX5_on_8 : decode cX5_on 8 = .ok (.bipush (-3), 2) := by decide +kernel
theorem dX5_on_10 : decode cX5_on 10 = .ok (.invokevirtual 48, 3) := by decide +kernel
theorem dX5_on_13 : decode cX5_on 13 = .ok (.ireturn, 1) := by decide +kernel
theorem dX5_on_14 : decode cX5_on 14 = .ok (.aload_n 0, 1) := by decide +kernel
theorem dX5_on_15 : decode cX5_on 15 = .ok (.getfield 10, 3) := by decide +kernel
theorem dX5_on_18 : decode cX5_on 18 = .ok (.aload_n 0, 1) := by decide +kernel
theorem dX5_on_19 : decode cX5_on 19 = .ok (.getfield 19, 3) := by decide +kernel
theorem dX5_on_22 : decode cX5_on 22 = .ok (.invokevirtual 181, 3) := by decide +kernel
theorem dX5_on_25 : decode cX5_on 25 = .ok (.aload_n 0, 1) := by decide +kernel
theorem dX5_on_26 : decode cX5_on 26 = .ok (.getfield 10, 3) := by decide +kernel
theorem dX5_on_29 : decode cX5_on 29 = .ok (.getfield 128, 3) := by decide +kernel
theorem dX5_on_32 : decode cX5_on 32 = .ok (.ireturn, 1) := by decide +kernel
theorem dX5_count_0 : decode cX5_count 0 = .ok (.iload_n 1, 1) := by decide +kernel
theorem dX5_count_1 : decode cX5_count 1 = .ok (.tableswitch 151 0 9 #[55, 66, 77, 88, 99, 107, 115, 127, 138, 143], 55) := by decide +kernel
theorem dX5_count_56 : decode cX5_count 56 = .ok (.aload_n 0, 1) := by decide +kernel
theorem dX5_count_57 : decode cX5_count 57 = .ok (.getfield 10, 3) := by decide +kernel
theorem dX5_count_60 : decode cX5_count 60 = .ok (.getfield 96, 3) := by decide +kernel
theorem dX5_count_63 : decode cX5_count 63 = .ok (.getfield 202, 3) := by decide +kernel
theorem dX5_count_66 : decode cX5_count 66 = .ok (.ireturn, 1) := by decide +kernel
theorem dX5_count_67 : decode cX5_count 67 = .ok (.aload_n 0, 1) := by decide +kernel
theorem dX5_count_68 : decode cX5_count 68 = .ok (.getfield 10, 3) := by decide +kernel
theorem dX5_count_71 : decode cX5_count 71 = .ok (.getfield 70, 3) := by decide +kernel
theorem dX5_count_74 : decode cX5_count 74 = .ok (.getfield 185, 3) := by decide +kernel
theorem dX5_count_77 : decode cX5_count 77 = .ok (.ireturn, 1) := by decide +kernel
theorem dX5_count_78 : decode cX5_count 78 = .ok (.aload_n 0, 1) := by decide +kernel
theorem dX5_count_79 : decode cX5_count 79 = .ok (.getfield 10, 3) := by decide +kernel
theorem dX5_count_82 : decode cX5_count 82 = .ok (.getfield 138, 3) := by decide +kernel
theorem dX5_count_85 : decode cX5_count 85 = .ok (.getfield 195, 3) := by decide +kernel
theorem dX5_count_88 : decode cX5_count 88 = .ok (.ireturn, 1) := by decide +kernel
theorem dX5_count_89 : decode cX5_count 89 = .ok (.aload_n 0, 1) := by decide +kernel
theorem dX5_count_90 : decode cX5_count 90 = .ok (.getfield 10, 3) := by decide +kernel
theorem dX5_count_93 : decode cX5_count 93 = .ok (.getfield 138, 3) := by decide +kernel
theorem dX5_count_96 : decode cX5_count 96 = .ok (.invokevirtual 234, 3) := by decide +kernel
theorem dX5_count_99 : decode cX5_count 99 = .ok (.ireturn, 1) := by decide +kernel
theorem dX5_count_100 : decode cX5_count 100 = .ok (.aload_n 0, 1) := by decide +kernel
theorem dX5_count_101 : decode cX5_count 101 = .ok (.getfield 10, 3) := by decide +kernel
theorem dX5_count_104 : decode cX5_count 104 = .ok (.getfield 128, 3) := by decide +kernel
theorem dX5_count_107 : decode cX5_count 107 = .ok (.ireturn, 1) := by decide +kernel
theorem dX5_count_108 : decode cX5_count 108 = .ok (.aload_n 0, 1) := by decide +kernel
theorem dX5_count_109 : decode cX5_count 109 = .ok (.getfield 10, 3) := by decide +kernel
theorem dX5_count_112 : decode cX5_count 112 = .ok (.getfield 125, 3) := by decide +kernel
theorem dX5_count_115 : decode cX5_count 115 = .ok (.ireturn, 1) := by decide +kernel
theorem dX5_count_116 : decode cX5_count 116 = .ok (.aload_n 0, 1) := by decide +kernel
theorem dX5_count_117 : decode cX5_count 117 = .ok (.getfield 10, 3) := by decide +kernel
theorem dX5_count_120 : decode cX5_count 120 = .ok (.getfield 96, 3) := by decide +kernel
theorem dX5_count_123 : decode cX5_count 123 = .ok (.iconst (-1), 1) := by decide +kernel
theorem dX5_count_124 : decode cX5_count 124 = .ok (.invokevirtual 100, 3) := by decide +kernel
theorem dX5_count_127 : decode cX5_count 127 = .ok (.ireturn, 1) := by decide +kernel
theorem dX5_count_128 : decode cX5_count 128 = .ok (.aload_n 0, 1) := by decide +kernel
theorem dX5_count_129 : decode cX5_count 129 = .ok (.getfield 10, 3) := by decide +kernel
theorem dX5_count_132 : decode cX5_count 132 = .ok (.getfield 96, 3) := by decide +kernel
theorem dX5_count_135 : decode cX5_count 135 = .ok (.invokevirtual 237, 3) := by decide +kernel
theorem dX5_count_138 : decode cX5_count 138 = .ok (.ireturn, 1) := by decide +kernel
theorem dX5_count_139 : decode cX5_count 139 = .ok (.aload_n 0, 1) := by decide +kernel
theorem dX5_count_140 : decode cX5_count 140 = .ok (.getfield 37, 3) := by decide +kernel
theorem dX5_count_143 : decode cX5_count 143 = .ok (.ireturn, 1) := by decide +kernel
theorem dX5_count_144 : decode cX5_count 144 = .ok (.aload_n 0, 1) := by decide +kernel
theorem dX5_count_145 : decode cX5_count 145 = .ok (.getfield 29, 3) := by decide +kernel
theorem dX5_count_148 : decode cX5_count 148 = .ok (.getfield 60, 3) := by decide +kernel
theorem dX5_count_151 : decode cX5_count 151 = .ok (.ireturn, 1) := by decide +kernel
theorem dX5_count_152 : decode cX5_count 152 = .ok (.iload_n 1, 1) := by decide +kernel
theorem dX5_count_153 : decode cX5_count 153 = .ok (.bipush 11, 2) := by decide +kernel
theorem dX5_count_155 : decode cX5_count 155 = .ok (.if_icmp .lt 23, 3) := by decide +kernel
theorem dX5_count_158 : decode cX5_count 158 = .ok (.iload_n 1, 1) := by decide +kernel
theorem dX5_count_159 : decode cX5_count 159 = .ok (.bipush 16, 2) := by decide +kernel
theorem dX5_count_161 : decode cX5_count 161 = .ok (.if_icmp .gt 17, 3) := by decide +kernel
theorem dX5_count_164 : decode cX5_count 164 = .ok (.aload_n 0, 1) := by decide +kernel
theorem dX5_count_165 : decode cX5_count 165 = .ok (.getfield 41, 3) := by decide +kernel
theorem dX5_count_168 : decode cX5_count 168 = .ok (.iload_n 1, 1) := by decide +kernel
theorem dX5_count_169 : decode cX5_count 169 = .ok (.bipush 10, 2) := by decide +kernel
theorem dX5_count_171 : decode cX5_count 171 = .ok (.isub, 1) := by decide +kernel
theorem dX5_count_172 : decode cX5_count 172 = .ok (.invokestatic 83, 3) := by decide +kernel
theorem dX5_count_175 : decode cX5_count 175 = .ok (.goto 5, 3) := by decide +kernel
theorem dX5_count_178 : decode cX5_count 178 = .ok (.bipush (-9), 2) := by decide +kernel
theorem dX5_count_180 : decode cX5_count 180 = .ok (.ireturn, 1) := by decide +kernel
theorem dX5_refuse_0 : decode cX5_refuse 0 = .ok (.aload_n 0, 1) := by decide +kernel
theorem dX5_refuse_1 : decode cX5_refuse 1 = .ok (.getfield 41, 3) := by decide +kernel
theorem dX5_refuse_4 : decode cX5_refuse 4 = .ok (.iload_n 1, 1) := by decide +kernel
theorem dX5_refuse_5 : decode cX5_refuse 5 = .ok (.ineg, 1) := by decide +kernel
theorem dX5_refuse_6 : decode cX5_refuse 6 = .ok (.aload_n 0, 1) := by decide +kernel
theorem dX5_refuse_7 : decode cX5_refuse 7 = .ok (.getfield 41, 3) := by decide +kernel
theorem dX5_refuse_10 : decode cX5_refuse 10 = .ok (.iload_n 1, 1) := by decide +kernel
theorem dX5_refuse_11 : decode cX5_refuse 11 = .ok (.ineg, 1) := by decide +kernel
theorem dX5_refuse_12 : decode cX5_refuse 12 = .ok (.invokestatic 83, 3) := by decide +kernel
theorem dX5_refuse_15 : decode cX5_refuse 15 = .ok (.iconst 1, 1) := by decide +kernel
theorem dX5_refuse_16 : decode cX5_refuse 16 = .ok (.iadd, 1) := by decide +kernel
theorem dX5_refuse_17 : decode cX5_refuse 17 = .ok (.invokestatic 151, 3) := by decide +kernel
theorem dX5_refuse_20 : decode cX5_refuse 20 = .ok (.iload_n 1, 1) := by decide +kernel
theorem dX5_refuse_21 : decode cX5_refuse 21 = .ok (.ireturn, 1) := by decide +kernel
theorem dX5_outside_0 : decode cX5_outside 0 = .ok (.iload_n 0, 1) := by decide +kernel
theorem dX5_outside_1 : decode cX5_outside 1 = .ok (.iload_n 1, 1) := by decide +kernel
theorem dX5_outside_2 : decode cX5_outside 2 = .ok (.if_icmp .ge 6, 3) := by decide +kernel
theorem dX5_outside_5 : decode cX5_outside 5 = .ok (.bipush (-4), 2) := by decide +kernel
theorem dX5_outside_7 : decode cX5_outside 7 = .ok (.ireturn, 1) := by decide +kernel
theorem dX5_outside_8 : decode cX5_outside 8 = .ok (.iload_n 0, 1) := by decide +kernel
theorem dX5_outside_9 : decode cX5_outside 9 = .ok (.iload_n 2, 1) := by decide +kernel
theorem dX5_outside_10 : decode cX5_outside 10 = .ok (.if_icmp .le 8, 3) := by decide +kernel
theorem dX5_outside_13 : decode cX5_outside 13 = .ok (.bipush (-6), 2) := by decide +kernel
theorem dX5_outside_15 : decode cX5_outside 15 = .ok (.goto 4, 3) := by decide +kernel
theorem dX5_outside_18 : decode cX5_outside 18 = .ok (.iconst 0, 1) := by decide +kernel
theorem dX5_outside_19 : decode cX5_outside 19 = .ok (.ireturn, 1) := by decide +kernel
theorem dX5_isNeither_0 : decode cX5_isNeither 0 = .ok (.iload_n 0, 1) := by decide +kernel
theorem dX5_isNeither_1 : decode cX5_isNeither 1 = .ok (.ifCond .eq 12, 3) := by decide +kernel
theorem dX5_isNeither_4 : decode cX5_isNeither 4 = .ok (.iload_n 0, 1) := by decide +kernel
theorem dX5_isNeither_5 : decode cX5_isNeither 5 = .ok (.iconst 1, 1) := by decide +kernel
theorem dX5_isNeither_6 : decode cX5_isNeither 6 = .ok (.if_icmp .eq 7, 3) := by decide +kernel
theorem dX5_isNeither_9 : decode cX5_isNeither 9 = .ok (.iconst 1, 1) := by decide +kernel
theorem dX5_isNeither_10 : decode cX5_isNeither 10 = .ok (.goto 4, 3) := by decide +kernel
theorem dX5_isNeither_13 : decode cX5_isNeither 13 = .ok (.iconst 0, 1) := by decide +kernel
theorem dX5_isNeither_14 : decode cX5_isNeither 14 = .ok (.ireturn, 1) := by decide +kernel
theorem dX5_isRoom_0 : decode cX5_isRoom 0 = .ok (.iload_n 0, 1) := by decide +kernel
theorem dX5_isRoom_1 : decode cX5_isRoom 1 = .ok (.ifCond .lt 12, 3) := by decide +kernel
theorem dX5_isRoom_4 : decode cX5_isRoom 4 = .ok (.iload_n 0, 1) := by decide +kernel
theorem dX5_isRoom_5 : decode cX5_isRoom 5 = .ok (.iconst 5, 1) := by decide +kernel
theorem dX5_isRoom_6 : decode cX5_isRoom 6 = .ok (.if_icmp .ge 7, 3) := by decide +kernel
theorem dX5_isRoom_9 : decode cX5_isRoom 9 = .ok (.iconst 1, 1) := by decide +kernel
theorem dX5_isRoom_10 : decode cX5_isRoom 10 = .ok (.goto 4, 3) := by decide +kernel
theorem dX5_isRoom_13 : decode cX5_isRoom 13 = .ok (.iconst 0, 1) := by decide +kernel
theorem dX5_isRoom_14 : decode cX5_isRoom 14 = .ok (.ireturn, 1) := by decide +kernel
theorem dX5_headAndHours_0 : decode cX5_headAndHours 0 = .ok (.aload_n 0, 1) := by decide +kernel
theorem dX5_headAndHours_1 : decode cX5_headAndHours 1 = .ok (.getfield 10, 3) := by decide +kernel
theorem dX5_headAndHours_4 : decode cX5_headAndHours 4 = .ok (.getfield 96, 3) := by decide +kernel
theorem dX5_headAndHours_7 : decode cX5_headAndHours 7 = .ok (.iload_n 1, 1) := by decide +kernel
theorem dX5_headAndHours_8 : decode cX5_headAndHours 8 = .ok (.invokevirtual 105, 3) := by decide +kernel
theorem dX5_headAndHours_11 : decode cX5_headAndHours 11 = .ok (.ifCond .eq 13, 3) := by decide +kernel
theorem dX5_headAndHours_14 : decode cX5_headAndHours 14 = .ok (.iload_n 2, 1) := by decide +kernel
theorem dX5_headAndHours_15 : decode cX5_headAndHours 15 = .ok (.iconst 0, 1) := by decide +kernel
theorem dX5_headAndHours_16 : decode cX5_headAndHours 16 = .ok (.bipush 60, 2) := by decide +kernel
theorem dX5_headAndHours_18 : decode cX5_headAndHours 18 = .ok (.invokestatic 44, 3) := by decide +kernel
theorem dX5_headAndHours_21 : decode cX5_headAndHours 21 = .ok (.goto 4, 3) := by decide +kernel
theorem dX5_headAndHours_24 : decode cX5_headAndHours 24 = .ok (.iconst (-1), 1) := by decide +kernel
theorem dX5_headAndHours_25 : decode cX5_headAndHours 25 = .ok (.ireturn, 1) := by decide +kernel
theorem dX5_songAndHours_0 : decode cX5_songAndHours 0 = .ok (.iload_n 1, 1) := by decide +kernel
theorem dX5_songAndHours_1 : decode cX5_songAndHours 1 = .ok (.iconst (-1), 1) := by decide +kernel
theorem dX5_songAndHours_2 : decode cX5_songAndHours 2 = .ok (.if_icmp .eq 17, 3) := by decide +kernel
theorem dX5_songAndHours_5 : decode cX5_songAndHours 5 = .ok (.aload_n 0, 1) := by decide +kernel
theorem dX5_songAndHours_6 : decode cX5_songAndHours 6 = .ok (.getfield 10, 3) := by decide +kernel
theorem dX5_songAndHours_9 : decode cX5_songAndHours 9 = .ok (.getfield 70, 3) := by decide +kernel
theorem dX5_songAndHours_12 : decode cX5_songAndHours 12 = .ok (.iload_n 1, 1) := by decide +kernel
theorem dX5_songAndHours_13 : decode cX5_songAndHours 13 = .ok (.invokevirtual 74, 3) := by decide +kernel
theorem dX5_songAndHours_16 : decode cX5_songAndHours 16 = .ok (.ifCond .eq 13, 3) := by decide +kernel
theorem dX5_songAndHours_19 : decode cX5_songAndHours 19 = .ok (.iload_n 2, 1) := by decide +kernel
theorem dX5_songAndHours_20 : decode cX5_songAndHours 20 = .ok (.iconst 0, 1) := by decide +kernel
theorem dX5_songAndHours_21 : decode cX5_songAndHours 21 = .ok (.bipush 60, 2) := by decide +kernel
theorem dX5_songAndHours_23 : decode cX5_songAndHours 23 = .ok (.invokestatic 44, 3) := by decide +kernel
theorem dX5_songAndHours_26 : decode cX5_songAndHours 26 = .ok (.goto 4, 3) := by decide +kernel
theorem dX5_songAndHours_29 : decode cX5_songAndHours 29 = .ok (.iconst (-1), 1) := by decide +kernel
theorem dX5_songAndHours_30 : decode cX5_songAndHours 30 = .ok (.ireturn, 1) := by decide +kernel
theorem dX5_lengthAndHours_0 : decode cX5_lengthAndHours 0 = .ok (.iload_n 0, 1) := by decide +kernel
theorem dX5_lengthAndHours_1 : decode cX5_lengthAndHours 1 = .ok (.iconst 1, 1) := by decide +kernel
theorem dX5_lengthAndHours_2 : decode cX5_lengthAndHours 2 = .ok (.if_icmp .lt 7, 3) := by decide +kernel
theorem dX5_lengthAndHours_5 : decode cX5_lengthAndHours 5 = .ok (.iload_n 1, 1) := by decide +kernel
theorem dX5_lengthAndHours_6 : decode cX5_lengthAndHours 6 = .ok (.ifCond .ge 6, 3) := by decide +kernel
theorem dX5_lengthAndHours_9 : decode cX5_lengthAndHours 9 = .ok (.bipush (-4), 2) := by decide +kernel
theorem dX5_lengthAndHours_11 : decode cX5_lengthAndHours 11 = .ok (.ireturn, 1) := by decide +kernel
theorem dX5_lengthAndHours_12 : decode cX5_lengthAndHours 12 = .ok (.iload_n 0, 1) := by decide +kernel
theorem dX5_lengthAndHours_13 : decode cX5_lengthAndHours 13 = .ok (.bipush 9, 2) := by decide +kernel
theorem dX5_lengthAndHours_15 : decode cX5_lengthAndHours 15 = .ok (.if_icmp .gt 9, 3) := by decide +kernel
theorem dX5_lengthAndHours_18 : decode cX5_lengthAndHours 18 = .ok (.iload_n 1, 1) := by decide +kernel
theorem dX5_lengthAndHours_19 : decode cX5_lengthAndHours 19 = .ok (.bipush 60, 2) := by decide +kernel
theorem dX5_lengthAndHours_21 : decode cX5_lengthAndHours 21 = .ok (.if_icmp .le 8, 3) := by decide +kernel
theorem dX5_lengthAndHours_24 : decode cX5_lengthAndHours 24 = .ok (.bipush (-6), 2) := by decide +kernel
theorem dX5_lengthAndHours_26 : decode cX5_lengthAndHours 26 = .ok (.goto 4, 3) := by decide +kernel
theorem dX5_lengthAndHours_29 : decode cX5_lengthAndHours 29 = .ok (.iconst 0, 1) := by decide +kernel
theorem dX5_lengthAndHours_30 : decode cX5_lengthAndHours 30 = .ok (.ireturn, 1) := by decide +kernel
theorem dX5_at_0 : decode cX5_at 0 = .ok (.iload_n 1, 1) := by decide +kernel
theorem dX5_at_1 : decode cX5_at 1 = .ok (.ifCond .lt 15, 3) := by decide +kernel
theorem dX5_at_4 : decode cX5_at 4 = .ok (.iload_n 1, 1) := by decide +kernel
theorem dX5_at_5 : decode cX5_at 5 = .ok (.aload_n 0, 1) := by decide +kernel
theorem dX5_at_6 : decode cX5_at 6 = .ok (.arraylength, 1) := by decide +kernel
theorem dX5_at_7 : decode cX5_at 7 = .ok (.if_icmp .ge 9, 3) := by decide +kernel
theorem dX5_at_10 : decode cX5_at 10 = .ok (.aload_n 0, 1) := by decide +kernel
theorem dX5_at_11 : decode cX5_at 11 = .ok (.iload_n 1, 1) := by decide +kernel
theorem dX5_at_12 : decode cX5_at 12 = .ok (.iaload, 1) := by decide +kernel
theorem dX5_at_13 : decode cX5_at 13 = .ok (.goto 5, 3) := by decide +kernel
theorem dX5_at_16 : decode cX5_at 16 = .ok (.bipush (-9), 2) := by decide +kernel
theorem dX5_at_18 : decode cX5_at 18 = .ok (.ireturn, 1) := by decide +kernel
theorem dX5_put_0 : decode cX5_put 0 = .ok (.iload_n 1, 1) := by decide +kernel
theorem dX5_put_1 : decode cX5_put 1 = .ok (.ifCond .lt 13, 3) := by decide +kernel
theorem dX5_put_4 : decode cX5_put 4 = .ok (.iload_n 1, 1) := by decide +kernel
theorem dX5_put_5 : decode cX5_put 5 = .ok (.aload_n 0, 1) := by decide +kernel
theorem dX5_put_6 : decode cX5_put 6 = .ok (.arraylength, 1) := by decide +kernel
theorem dX5_put_7 : decode cX5_put 7 = .ok (.if_icmp .ge 7, 3) := by decide +kernel
theorem dX5_put_10 : decode cX5_put 10 = .ok (.aload_n 0, 1) := by decide +kernel
theorem dX5_put_11 : decode cX5_put 11 = .ok (.iload_n 1, 1) := by decide +kernel
theorem dX5_put_12 : decode cX5_put 12 = .ok (.iload_n 2, 1) := by decide +kernel
theorem dX5_put_13 : decode cX5_put 13 = .ok (.iastore, 1) := by decide +kernel
theorem dX5_put_14 : decode cX5_put 14 = .ok (.return_, 1) := by decide +kernel
theorem dX5_copy_0 : decode cX5_copy 0 = .ok (.aload_n 0, 1) := by decide +kernel
theorem dX5_copy_1 : decode cX5_copy 1 = .ok (.iconst 0, 1) := by decide +kernel
theorem dX5_copy_2 : decode cX5_copy 2 = .ok (.aload_n 1, 1) := by decide +kernel
theorem dX5_copy_3 : decode cX5_copy 3 = .ok (.iconst 0, 1) := by decide +kernel
theorem dX5_copy_4 : decode cX5_copy 4 = .ok (.aload_n 0, 1) := by decide +kernel
theorem dX5_copy_5 : decode cX5_copy 5 = .ok (.arraylength, 1) := by decide +kernel
theorem dX5_copy_6 : decode cX5_copy 6 = .ok (.aload_n 1, 1) := by decide +kernel
theorem dX5_copy_7 : decode cX5_copy 7 = .ok (.arraylength, 1) := by decide +kernel
theorem dX5_copy_8 : decode cX5_copy 8 = .ok (.invokestatic 220, 3) := by decide +kernel
theorem dX5_copy_11 : decode cX5_copy 11 = .ok (.invokestatic 240, 3) := by decide +kernel
theorem dX5_copy_14 : decode cX5_copy 14 = .ok (.return_, 1) := by decide +kernel
theorem dX5_imagine_0 : decode cX5_imagine 0 = .ok (.aload_n 0, 1) := by decide +kernel
theorem dX5_imagine_1 : decode cX5_imagine 1 = .ok (.getfield 16, 3) := by decide +kernel
theorem dX5_imagine_4 : decode cX5_imagine 4 = .ok (.aload_n 0, 1) := by decide +kernel
theorem dX5_imagine_5 : decode cX5_imagine 5 = .ok (.getfield 10, 3) := by decide +kernel
theorem dX5_imagine_8 : decode cX5_imagine 8 = .ok (.invokevirtual 181, 3) := by decide +kernel
theorem dX5_imagine_11 : decode cX5_imagine 11 = .ok (.aload_n 0, 1) := by decide +kernel
theorem dX5_imagine_12 : decode cX5_imagine 12 = .ok (.getfield 16, 3) := by decide +kernel
theorem dX5_imagine_15 : decode cX5_imagine 15 = .ok (.iload_n 1, 1) := by decide +kernel
theorem dX5_imagine_16 : decode cX5_imagine 16 = .ok (.invokevirtual 199, 3) := by decide +kernel
theorem dX5_imagine_19 : decode cX5_imagine 19 = .ok (.return_, 1) := by decide +kernel
theorem dX5_hoursUntilRid_0 : decode cX5_hoursUntilRid 0 = .ok (.iconst 0, 1) := by decide +kernel
theorem dX5_hoursUntilRid_1 : decode cX5_hoursUntilRid 1 = .ok (.istore_n 2, 1) := by decide +kernel
theorem dX5_hoursUntilRid_2 : decode cX5_hoursUntilRid 2 = .ok (.iload_n 2, 1) := by decide +kernel
theorem dX5_hoursUntilRid_3 : decode cX5_hoursUntilRid 3 = .ok (.bipush 60, 2) := by decide +kernel
theorem dX5_hoursUntilRid_5 : decode cX5_hoursUntilRid 5 = .ok (.if_icmp .gt 33, 3) := by decide +kernel
theorem dX5_hoursUntilRid_8 : decode cX5_hoursUntilRid 8 = .ok (.aload_n 0, 1) := by decide +kernel
theorem dX5_hoursUntilRid_9 : decode cX5_hoursUntilRid 9 = .ok (.getfield 16, 3) := by decide +kernel
theorem dX5_hoursUntilRid_12 : decode cX5_hoursUntilRid 12 = .ok (.getfield 96, 3) := by decide +kernel
theorem dX5_hoursUntilRid_15 : decode cX5_hoursUntilRid 15 = .ok (.iload_n 1, 1) := by decide +kernel
theorem dX5_hoursUntilRid_16 : decode cX5_hoursUntilRid 16 = .ok (.invokevirtual 159, 3) := by decide +kernel
theorem dX5_hoursUntilRid_19 : decode cX5_hoursUntilRid 19 = .ok (.ifCond .ne 5, 3) := by decide +kernel
theorem dX5_hoursUntilRid_22 : decode cX5_hoursUntilRid 22 = .ok (.iload_n 2, 1) := by decide +kernel
theorem dX5_hoursUntilRid_23 : decode cX5_hoursUntilRid 23 = .ok (.ireturn, 1) := by decide +kernel
theorem dX5_hoursUntilRid_24 : decode cX5_hoursUntilRid 24 = .ok (.aload_n 0, 1) := by decide +kernel
theorem dX5_hoursUntilRid_25 : decode cX5_hoursUntilRid 25 = .ok (.getfield 16, 3) := by decide +kernel
theorem dX5_hoursUntilRid_28 : decode cX5_hoursUntilRid 28 = .ok (.invokevirtual 165, 3) := by decide +kernel
theorem dX5_hoursUntilRid_31 : decode cX5_hoursUntilRid 31 = .ok (.pop, 1) := by decide +kernel
theorem dX5_hoursUntilRid_32 : decode cX5_hoursUntilRid 32 = .ok (.iinc 2 1, 3) := by decide +kernel
theorem dX5_hoursUntilRid_35 : decode cX5_hoursUntilRid 35 = .ok (.goto (-33), 3) := by decide +kernel
theorem dX5_hoursUntilRid_38 : decode cX5_hoursUntilRid 38 = .ok (.bipush 61, 2) := by decide +kernel
theorem dX5_hoursUntilRid_40 : decode cX5_hoursUntilRid 40 = .ok (.ireturn, 1) := by decide +kernel
theorem dX5_holdersIfWritten_0 : decode cX5_holdersIfWritten 0 = .ok (.aload_n 0, 1) := by decide +kernel
theorem dX5_holdersIfWritten_1 : decode cX5_holdersIfWritten 1 = .ok (.getfield 16, 3) := by decide +kernel
theorem dX5_holdersIfWritten_4 : decode cX5_holdersIfWritten 4 = .ok (.aload_n 0, 1) := by decide +kernel
theorem dX5_holdersIfWritten_5 : decode cX5_holdersIfWritten 5 = .ok (.getfield 10, 3) := by decide +kernel
theorem dX5_holdersIfWritten_8 : decode cX5_holdersIfWritten 8 = .ok (.invokevirtual 181, 3) := by decide +kernel
theorem dX5_holdersIfWritten_11 : decode cX5_holdersIfWritten 11 = .ok (.aload_n 0, 1) := by decide +kernel
theorem dX5_holdersIfWritten_12 : decode cX5_holdersIfWritten 12 = .ok (.getfield 16, 3) := by decide +kernel
theorem dX5_holdersIfWritten_15 : decode cX5_holdersIfWritten 15 = .ok (.getfield 70, 3) := by decide +kernel
theorem dX5_holdersIfWritten_18 : decode cX5_holdersIfWritten 18 = .ok (.getfield 185, 3) := by decide +kernel
theorem dX5_holdersIfWritten_21 : decode cX5_holdersIfWritten 21 = .ok (.istore 5, 2) := by decide +kernel
theorem dX5_holdersIfWritten_23 : decode cX5_holdersIfWritten 23 = .ok (.aload_n 0, 1) := by decide +kernel
theorem dX5_holdersIfWritten_24 : decode cX5_holdersIfWritten 24 = .ok (.getfield 16, 3) := by decide +kernel
theorem dX5_holdersIfWritten_27 : decode cX5_holdersIfWritten 27 = .ok (.getfield 70, 3) := by decide +kernel
theorem dX5_holdersIfWritten_30 : decode cX5_holdersIfWritten 30 = .ok (.iload_n 1, 1) := by decide +kernel
theorem dX5_holdersIfWritten_31 : decode cX5_holdersIfWritten 31 = .ok (.iload_n 2, 1) := by decide +kernel
theorem dX5_holdersIfWritten_32 : decode cX5_holdersIfWritten 32 = .ok (.iload_n 3, 1) := by decide +kernel
theorem dX5_holdersIfWritten_33 : decode cX5_holdersIfWritten 33 = .ok (.invokevirtual 246, 3) := by decide +kernel
theorem dX5_holdersIfWritten_36 : decode cX5_holdersIfWritten 36 = .ok (.pop, 1) := by decide +kernel
theorem dX5_holdersIfWritten_37 : decode cX5_holdersIfWritten 37 = .ok (.aload_n 0, 1) := by decide +kernel
theorem dX5_holdersIfWritten_38 : decode cX5_holdersIfWritten 38 = .ok (.getfield 16, 3) := by decide +kernel
theorem dX5_holdersIfWritten_41 : decode cX5_holdersIfWritten 41 = .ok (.iconst 0, 1) := by decide +kernel
theorem dX5_holdersIfWritten_42 : decode cX5_holdersIfWritten 42 = .ok (.iload 5, 2) := by decide +kernel
theorem dX5_holdersIfWritten_44 : decode cX5_holdersIfWritten 44 = .ok (.invokevirtual 155, 3) := by decide +kernel
theorem dX5_holdersIfWritten_47 : decode cX5_holdersIfWritten 47 = .ok (.aload_n 0, 1) := by decide +kernel
theorem dX5_holdersIfWritten_48 : decode cX5_holdersIfWritten 48 = .ok (.getfield 16, 3) := by decide +kernel
theorem dX5_holdersIfWritten_51 : decode cX5_holdersIfWritten 51 = .ok (.iload 4, 2) := by decide +kernel
theorem dX5_holdersIfWritten_53 : decode cX5_holdersIfWritten 53 = .ok (.invokevirtual 199, 3) := by decide +kernel
theorem dX5_holdersIfWritten_56 : decode cX5_holdersIfWritten 56 = .ok (.aload_n 0, 1) := by decide +kernel
theorem dX5_holdersIfWritten_57 : decode cX5_holdersIfWritten 57 = .ok (.getfield 16, 3) := by decide +kernel
theorem dX5_holdersIfWritten_60 : decode cX5_holdersIfWritten 60 = .ok (.getfield 96, 3) := by decide +kernel
theorem dX5_holdersIfWritten_63 : decode cX5_holdersIfWritten 63 = .ok (.iload 5, 2) := by decide +kernel
theorem dX5_holdersIfWritten_65 : decode cX5_holdersIfWritten 65 = .ok (.invokevirtual 100, 3) := by decide +kernel
theorem dX5_holdersIfWritten_68 : decode cX5_holdersIfWritten 68 = .ok (.ireturn, 1) := by decide +kernel
theorem dX5_leadsToTold_0 : decode cX5_leadsToTold 0 = .ok (.aload_n 0, 1) := by decide +kernel
theorem dX5_leadsToTold_1 : decode cX5_leadsToTold 1 = .ok (.getfield 16, 3) := by decide +kernel
theorem dX5_leadsToTold_4 : decode cX5_leadsToTold 4 = .ok (.aload_n 0, 1) := by decide +kernel
theorem dX5_leadsToTold_5 : decode cX5_leadsToTold 5 = .ok (.getfield 10, 3) := by decide +kernel
theorem dX5_leadsToTold_8 : decode cX5_leadsToTold 8 = .ok (.invokevirtual 181, 3) := by decide +kernel
theorem dX5_leadsToTold_11 : decode cX5_leadsToTold 11 = .ok (.aload_n 0, 1) := by decide +kernel
theorem dX5_leadsToTold_12 : decode cX5_leadsToTold 12 = .ok (.getfield 16, 3) := by decide +kernel
theorem dX5_leadsToTold_15 : decode cX5_leadsToTold 15 = .ok (.iload_n 1, 1) := by decide +kernel
theorem dX5_leadsToTold_16 : decode cX5_leadsToTold 16 = .ok (.iload_n 2, 1) := by decide +kernel
theorem dX5_leadsToTold_17 : decode cX5_leadsToTold 17 = .ok (.invokevirtual 155, 3) := by decide +kernel
theorem dX5_leadsToTold_20 : decode cX5_leadsToTold 20 = .ok (.aload_n 0, 1) := by decide +kernel
theorem dX5_leadsToTold_21 : decode cX5_leadsToTold 21 = .ok (.getfield 16, 3) := by decide +kernel
theorem dX5_leadsToTold_24 : decode cX5_leadsToTold 24 = .ok (.iload_n 3, 1) := by decide +kernel
theorem dX5_leadsToTold_25 : decode cX5_leadsToTold 25 = .ok (.invokevirtual 199, 3) := by decide +kernel
theorem dX5_leadsToTold_28 : decode cX5_leadsToTold 28 = .ok (.aload_n 0, 1) := by decide +kernel
theorem dX5_leadsToTold_29 : decode cX5_leadsToTold 29 = .ok (.aload_n 0, 1) := by decide +kernel
theorem dX5_leadsToTold_30 : decode cX5_leadsToTold 30 = .ok (.getfield 16, 3) := by decide +kernel
theorem dX5_leadsToTold_33 : decode cX5_leadsToTold 33 = .ok (.getfield 96, 3) := by decide +kernel
theorem dX5_leadsToTold_36 : decode cX5_leadsToTold 36 = .ok (.aload_n 0, 1) := by decide +kernel
theorem dX5_leadsToTold_37 : decode cX5_leadsToTold 37 = .ok (.getfield 37, 3) := by decide +kernel
theorem dX5_leadsToTold_40 : decode cX5_leadsToTold 40 = .ok (.invokevirtual 225, 3) := by decide +kernel
theorem dX5_leadsToTold_43 : decode cX5_leadsToTold 43 = .ok (.bipush (-9), 2) := by decide +kernel
theorem dX5_leadsToTold_45 : decode cX5_leadsToTold 45 = .ok (.if_icmp .ne 7, 3) := by decide +kernel
theorem dX5_leadsToTold_48 : decode cX5_leadsToTold 48 = .ok (.iconst 1, 1) := by decide +kernel
theorem dX5_leadsToTold_49 : decode cX5_leadsToTold 49 = .ok (.goto 4, 3) := by decide +kernel
theorem dX5_leadsToTold_52 : decode cX5_leadsToTold 52 = .ok (.iconst 0, 1) := by decide +kernel
theorem dX5_leadsToTold_53 : decode cX5_leadsToTold 53 = .ok (.ireturn, 1) := by decide +kernel
theorem dX5_unlikeTold_0 : decode cX5_unlikeTold 0 = .ok (.iconst 0, 1) := by decide +kernel
theorem dX5_unlikeTold_1 : decode cX5_unlikeTold 1 = .ok (.istore_n 3, 1) := by decide +kernel
theorem dX5_unlikeTold_2 : decode cX5_unlikeTold 2 = .ok (.iload_n 3, 1) := by decide +kernel
theorem dX5_unlikeTold_3 : decode cX5_unlikeTold 3 = .ok (.iload_n 2, 1) := by decide +kernel
theorem dX5_unlikeTold_4 : decode cX5_unlikeTold 4 = .ok (.if_icmp .ge 33, 3) := by decide +kernel
theorem dX5_unlikeTold_7 : decode cX5_unlikeTold 7 = .ok (.aload_n 0, 1) := by decide +kernel
theorem dX5_unlikeTold_8 : decode cX5_unlikeTold 8 = .ok (.getfield 33, 3) := by decide +kernel
theorem dX5_unlikeTold_11 : decode cX5_unlikeTold 11 = .ok (.iload_n 3, 1) := by decide +kernel
theorem dX5_unlikeTold_12 : decode cX5_unlikeTold 12 = .ok (.invokestatic 83, 3) := by decide +kernel
theorem dX5_unlikeTold_15 : decode cX5_unlikeTold 15 = .ok (.aload_n 1, 1) := by decide +kernel
theorem dX5_unlikeTold_16 : decode cX5_unlikeTold 16 = .ok (.getfield 113, 3) := by decide +kernel
theorem dX5_unlikeTold_19 : decode cX5_unlikeTold 19 = .ok (.iload_n 3, 1) := by decide +kernel
theorem dX5_unlikeTold_20 : decode cX5_unlikeTold 20 = .ok (.invokestatic 83, 3) := by decide +kernel
theorem dX5_unlikeTold_23 : decode cX5_unlikeTold 23 = .ok (.invokestatic 217, 3) := by decide +kernel
theorem dX5_unlikeTold_26 : decode cX5_unlikeTold 26 = .ok (.if_icmp .eq 5, 3) := by decide +kernel
theorem dX5_unlikeTold_29 : decode cX5_unlikeTold 29 = .ok (.iload_n 3, 1) := by decide +kernel
theorem dX5_unlikeTold_30 : decode cX5_unlikeTold 30 = .ok (.ireturn, 1) := by decide +kernel
theorem dX5_unlikeTold_31 : decode cX5_unlikeTold 31 = .ok (.iinc 3 1, 3) := by decide +kernel
theorem dX5_unlikeTold_34 : decode cX5_unlikeTold 34 = .ok (.goto (-32), 3) := by decide +kernel
theorem dX5_unlikeTold_37 : decode cX5_unlikeTold 37 = .ok (.bipush (-9), 2) := by decide +kernel
theorem dX5_unlikeTold_39 : decode cX5_unlikeTold 39 = .ok (.ireturn, 1) := by decide +kernel
theorem dX5_inRow_0 : decode cX5_inRow 0 = .ok (.iload_n 0, 1) := by decide +kernel
theorem dX5_inRow_1 : decode cX5_inRow 1 = .ok (.bipush (-9), 2) := by decide +kernel
theorem dX5_inRow_3 : decode cX5_inRow 3 = .ok (.if_icmp .ne 8, 3) := by decide +kernel
theorem dX5_inRow_6 : decode cX5_inRow 6 = .ok (.bipush 9, 2) := by decide +kernel
theorem dX5_inRow_8 : decode cX5_inRow 8 = .ok (.goto 4, 3) := by decide +kernel
theorem dX5_inRow_11 : decode cX5_inRow 11 = .ok (.iload_n 0, 1) := by decide +kernel
theorem dX5_inRow_12 : decode cX5_inRow 12 = .ok (.ireturn, 1) := by decide +kernel
theorem dX5_obeyAll_0 : decode cX5_obeyAll 0 = .ok (.aload_n 0, 1) := by decide +kernel
theorem dX5_obeyAll_1 : decode cX5_obeyAll 1 = .ok (.getfield 16, 3) := by decide +kernel
theorem dX5_obeyAll_4 : decode cX5_obeyAll 4 = .ok (.aload_n 0, 1) := by decide +kernel
theorem dX5_obeyAll_5 : decode cX5_obeyAll 5 = .ok (.getfield 10, 3) := by decide +kernel
theorem dX5_obeyAll_8 : decode cX5_obeyAll 8 = .ok (.invokevirtual 181, 3) := by decide +kernel
theorem dX5_obeyAll_11 : decode cX5_obeyAll 11 = .ok (.iconst 0, 1) := by decide +kernel
theorem dX5_obeyAll_12 : decode cX5_obeyAll 12 = .ok (.istore_n 1, 1) := by decide +kernel
theorem dX5_obeyAll_13 : decode cX5_obeyAll 13 = .ok (.iconst 0, 1) := by decide +kernel
theorem dX5_obeyAll_14 : decode cX5_obeyAll 14 = .ok (.istore_n 2, 1) := by decide +kernel
theorem dX5_obeyAll_15 : decode cX5_obeyAll 15 = .ok (.iload_n 1, 1) := by decide +kernel
theorem dX5_obeyAll_16 : decode cX5_obeyAll 16 = .ok (.aload_n 0, 1) := by decide +kernel
theorem dX5_obeyAll_17 : decode cX5_obeyAll 17 = .ok (.getfield 29, 3) := by decide +kernel
theorem dX5_obeyAll_20 : decode cX5_obeyAll 20 = .ok (.getfield 60, 3) := by decide +kernel
theorem dX5_obeyAll_23 : decode cX5_obeyAll 23 = .ok (.if_icmp .ge 38, 3) := by decide +kernel
theorem dX5_obeyAll_26 : decode cX5_obeyAll 26 = .ok (.iload_n 2, 1) := by decide +kernel
theorem dX5_obeyAll_27 : decode cX5_obeyAll 27 = .ok (.bipush 96, 2) := by decide +kernel
theorem dX5_obeyAll_29 : decode cX5_obeyAll 29 = .ok (.if_icmp .ge 32, 3) := by decide +kernel
theorem dX5_obeyAll_32 : decode cX5_obeyAll 32 = .ok (.aload_n 0, 1) := by decide +kernel
theorem dX5_obeyAll_33 : decode cX5_obeyAll 33 = .ok (.iload_n 1, 1) := by decide +kernel
theorem dX5_obeyAll_34 : decode cX5_obeyAll 34 = .ok (.invokevirtual 248, 3) := by decide +kernel
theorem dX5_obeyAll_37 : decode cX5_obeyAll 37 = .ok (.ifCond .ne 9, 3) := by decide +kernel
theorem dX5_obeyAll_40 : decode cX5_obeyAll 40 = .ok (.sipush (-2000), 3) := by decide +kernel
theorem dX5_obeyAll_43 : decode cX5_obeyAll 43 = .ok (.iload_n 1, 1) := by decide +kernel
theorem dX5_obeyAll_44 : decode cX5_obeyAll 44 = .ok (.isub, 1) := by decide +kernel
theorem dX5_obeyAll_45 : decode cX5_obeyAll 45 = .ok (.ireturn, 1) := by decide +kernel
theorem dX5_obeyAll_46 : decode cX5_obeyAll 46 = .ok (.aload_n 0, 1) := by decide +kernel
theorem dX5_obeyAll_47 : decode cX5_obeyAll 47 = .ok (.getfield 29, 3) := by decide +kernel
theorem dX5_obeyAll_50 : decode cX5_obeyAll 50 = .ok (.iload_n 1, 1) := by decide +kernel
theorem dX5_obeyAll_51 : decode cX5_obeyAll 51 = .ok (.invokevirtual 251, 3) := by decide +kernel
theorem dX5_obeyAll_54 : decode cX5_obeyAll 54 = .ok (.istore_n 1, 1) := by decide +kernel
theorem dX5_obeyAll_55 : decode cX5_obeyAll 55 = .ok (.iinc 2 1, 3) := by decide +kernel
theorem dX5_obeyAll_58 : decode cX5_obeyAll 58 = .ok (.goto (-43), 3) := by decide +kernel
theorem dX5_obeyAll_61 : decode cX5_obeyAll 61 = .ok (.aload_n 0, 1) := by decide +kernel
theorem dX5_obeyAll_62 : decode cX5_obeyAll 62 = .ok (.getfield 10, 3) := by decide +kernel
theorem dX5_obeyAll_65 : decode cX5_obeyAll 65 = .ok (.aload_n 0, 1) := by decide +kernel
theorem dX5_obeyAll_66 : decode cX5_obeyAll 66 = .ok (.getfield 16, 3) := by decide +kernel
theorem dX5_obeyAll_69 : decode cX5_obeyAll 69 = .ok (.invokevirtual 181, 3) := by decide +kernel
theorem dX5_obeyAll_72 : decode cX5_obeyAll 72 = .ok (.iload_n 2, 1) := by decide +kernel
theorem dX5_obeyAll_73 : decode cX5_obeyAll 73 = .ok (.ireturn, 1) := by decide +kernel
theorem dX5_obey_0 : decode cX5_obey 0 = .ok (.aload_n 0, 1) := by decide +kernel
theorem dX5_obey_1 : decode cX5_obey 1 = .ok (.getfield 29, 3) := by decide +kernel
theorem dX5_obey_4 : decode cX5_obey 4 = .ok (.iload_n 1, 1) := by decide +kernel
theorem dX5_obey_5 : decode cX5_obey 5 = .ok (.invokevirtual 254, 3) := by decide +kernel
theorem dX5_obey_8 : decode cX5_obey 8 = .ok (.lookupswitch 178 #[(100, 44), (103, 153), (104, 114), (115, 75)], 44) := by decide +kernel
theorem dX5_obey_52 : decode cX5_obey 52 = .ok (.aload_n 0, 1) := by decide +kernel
theorem dX5_obey_53 : decode cX5_obey 53 = .ok (.getfield 16, 3) := by decide +kernel
theorem dX5_obey_56 : decode cX5_obey 56 = .ok (.getfield 138, 3) := by decide +kernel
theorem dX5_obey_59 : decode cX5_obey 59 = .ok (.aload_n 0, 1) := by decide +kernel
theorem dX5_obey_60 : decode cX5_obey 60 = .ok (.getfield 29, 3) := by decide +kernel
theorem dX5_obey_63 : decode cX5_obey 63 = .ok (.iload_n 1, 1) := by decide +kernel
theorem dX5_obey_64 : decode cX5_obey 64 = .ok (.iconst 1, 1) := by decide +kernel
theorem dX5_obey_65 : decode cX5_obey 65 = .ok (.iadd, 1) := by decide +kernel
theorem dX5_obey_66 : decode cX5_obey 66 = .ok (.invokevirtual 257, 3) := by decide +kernel
theorem dX5_obey_69 : decode cX5_obey 69 = .ok (.aload_n 0, 1) := by decide +kernel
theorem dX5_obey_70 : decode cX5_obey 70 = .ok (.getfield 29, 3) := by decide +kernel
theorem dX5_obey_73 : decode cX5_obey 73 = .ok (.iload_n 1, 1) := by decide +kernel
theorem dX5_obey_74 : decode cX5_obey 74 = .ok (.iconst 2, 1) := by decide +kernel
theorem dX5_obey_75 : decode cX5_obey 75 = .ok (.iadd, 1) := by decide +kernel
theorem dX5_obey_76 : decode cX5_obey 76 = .ok (.invokevirtual 257, 3) := by decide +kernel
theorem dX5_obey_79 : decode cX5_obey 79 = .ok (.invokevirtual 260, 3) := by decide +kernel
theorem dX5_obey_82 : decode cX5_obey 82 = .ok (.ireturn, 1) := by decide +kernel
theorem dX5_obey_83 : decode cX5_obey 83 = .ok (.aload_n 0, 1) := by decide +kernel
theorem dX5_obey_84 : decode cX5_obey 84 = .ok (.getfield 16, 3) := by decide +kernel
theorem dX5_obey_87 : decode cX5_obey 87 = .ok (.getfield 70, 3) := by decide +kernel
theorem dX5_obey_90 : decode cX5_obey 90 = .ok (.aload_n 0, 1) := by decide +kernel
theorem dX5_obey_91 : decode cX5_obey 91 = .ok (.getfield 29, 3) := by decide +kernel
theorem dX5_obey_94 : decode cX5_obey 94 = .ok (.iload_n 1, 1) := by decide +kernel
theorem dX5_obey_95 : decode cX5_obey 95 = .ok (.invokevirtual 263, 3) := by decide +kernel
theorem dX5_obey_98 : decode cX5_obey 98 = .ok (.aload_n 0, 1) := by decide +kernel
theorem dX5_obey_99 : decode cX5_obey 99 = .ok (.getfield 29, 3) := by decide +kernel
theorem dX5_obey_102 : decode cX5_obey 102 = .ok (.iload_n 1, 1) := by decide +kernel
theorem dX5_obey_103 : decode cX5_obey 103 = .ok (.iconst 2, 1) := by decide +kernel
theorem dX5_obey_104 : decode cX5_obey 104 = .ok (.iadd, 1) := by decide +kernel
theorem dX5_obey_105 : decode cX5_obey 105 = .ok (.invokevirtual 257, 3) := by decide +kernel
theorem dX5_obey_108 : decode cX5_obey 108 = .ok (.aload_n 0, 1) := by decide +kernel
theorem dX5_obey_109 : decode cX5_obey 109 = .ok (.getfield 29, 3) := by decide +kernel
theorem dX5_obey_112 : decode cX5_obey 112 = .ok (.iload_n 1, 1) := by decide +kernel
theorem dX5_obey_113 : decode cX5_obey 113 = .ok (.iconst 3, 1) := by decide +kernel
theorem dX5_obey_114 : decode cX5_obey 114 = .ok (.iadd, 1) := by decide +kernel
theorem dX5_obey_115 : decode cX5_obey 115 = .ok (.invokevirtual 257, 3) := by decide +kernel
theorem dX5_obey_118 : decode cX5_obey 118 = .ok (.invokevirtual 246, 3) := by decide +kernel
theorem dX5_obey_121 : decode cX5_obey 121 = .ok (.ireturn, 1) := by decide +kernel
theorem dX5_obey_122 : decode cX5_obey 122 = .ok (.aload_n 0, 1) := by decide +kernel
theorem dX5_obey_123 : decode cX5_obey 123 = .ok (.getfield 16, 3) := by decide +kernel
theorem dX5_obey_126 : decode cX5_obey 126 = .ok (.getfield 96, 3) := by decide +kernel
theorem dX5_obey_129 : decode cX5_obey 129 = .ok (.aload_n 0, 1) := by decide +kernel
theorem dX5_obey_130 : decode cX5_obey 130 = .ok (.getfield 29, 3) := by decide +kernel
theorem dX5_obey_133 : decode cX5_obey 133 = .ok (.iload_n 1, 1) := by decide +kernel
theorem dX5_obey_134 : decode cX5_obey 134 = .ok (.invokevirtual 263, 3) := by decide +kernel
theorem dX5_obey_137 : decode cX5_obey 137 = .ok (.aload_n 0, 1) := by decide +kernel
theorem dX5_obey_138 : decode cX5_obey 138 = .ok (.getfield 29, 3) := by decide +kernel
theorem dX5_obey_141 : decode cX5_obey 141 = .ok (.iload_n 1, 1) := by decide +kernel
theorem dX5_obey_142 : decode cX5_obey 142 = .ok (.iconst 2, 1) := by decide +kernel
theorem dX5_obey_143 : decode cX5_obey 143 = .ok (.iadd, 1) := by decide +kernel
theorem dX5_obey_144 : decode cX5_obey 144 = .ok (.invokevirtual 257, 3) := by decide +kernel
theorem dX5_obey_147 : decode cX5_obey 147 = .ok (.aload_n 0, 1) := by decide +kernel
theorem dX5_obey_148 : decode cX5_obey 148 = .ok (.getfield 29, 3) := by decide +kernel
theorem dX5_obey_151 : decode cX5_obey 151 = .ok (.iload_n 1, 1) := by decide +kernel
theorem dX5_obey_152 : decode cX5_obey 152 = .ok (.iconst 3, 1) := by decide +kernel
theorem dX5_obey_153 : decode cX5_obey 153 = .ok (.iadd, 1) := by decide +kernel
theorem dX5_obey_154 : decode cX5_obey 154 = .ok (.invokevirtual 257, 3) := by decide +kernel
theorem dX5_obey_157 : decode cX5_obey 157 = .ok (.invokevirtual 265, 3) := by decide +kernel
theorem dX5_obey_160 : decode cX5_obey 160 = .ok (.ireturn, 1) := by decide +kernel
theorem dX5_obey_161 : decode cX5_obey 161 = .ok (.aload_n 0, 1) := by decide +kernel
theorem dX5_obey_162 : decode cX5_obey 162 = .ok (.aload_n 0, 1) := by decide +kernel
theorem dX5_obey_163 : decode cX5_obey 163 = .ok (.getfield 29, 3) := by decide +kernel
theorem dX5_obey_166 : decode cX5_obey 166 = .ok (.iload_n 1, 1) := by decide +kernel
theorem dX5_obey_167 : decode cX5_obey 167 = .ok (.iconst 1, 1) := by decide +kernel
theorem dX5_obey_168 : decode cX5_obey 168 = .ok (.iadd, 1) := by decide +kernel
theorem dX5_obey_169 : decode cX5_obey 169 = .ok (.invokevirtual 257, 3) := by decide +kernel
theorem dX5_obey_172 : decode cX5_obey 172 = .ok (.aload_n 0, 1) := by decide +kernel
theorem dX5_obey_173 : decode cX5_obey 173 = .ok (.getfield 29, 3) := by decide +kernel
theorem dX5_obey_176 : decode cX5_obey 176 = .ok (.iload_n 1, 1) := by decide +kernel
theorem dX5_obey_177 : decode cX5_obey 177 = .ok (.iconst 2, 1) := by decide +kernel
theorem dX5_obey_178 : decode cX5_obey 178 = .ok (.iadd, 1) := by decide +kernel
theorem dX5_obey_179 : decode cX5_obey 179 = .ok (.invokevirtual 257, 3) := by decide +kernel
theorem dX5_obey_182 : decode cX5_obey 182 = .ok (.invokevirtual 266, 3) := by decide +kernel
theorem dX5_obey_185 : decode cX5_obey 185 = .ok (.ireturn, 1) := by decide +kernel
theorem dX5_obey_186 : decode cX5_obey 186 = .ok (.aload_n 0, 1) := by decide +kernel
theorem dX5_obey_187 : decode cX5_obey 187 = .ok (.aload_n 0, 1) := by decide +kernel
theorem dX5_obey_188 : decode cX5_obey 188 = .ok (.getfield 29, 3) := by decide +kernel
theorem dX5_obey_191 : decode cX5_obey 191 = .ok (.iload_n 1, 1) := by decide +kernel
theorem dX5_obey_192 : decode cX5_obey 192 = .ok (.iconst 1, 1) := by decide +kernel
theorem dX5_obey_193 : decode cX5_obey 193 = .ok (.iadd, 1) := by decide +kernel
theorem dX5_obey_194 : decode cX5_obey 194 = .ok (.invokevirtual 269, 3) := by decide +kernel
theorem dX5_obey_197 : decode cX5_obey 197 = .ok (.invokevirtual 272, 3) := by decide +kernel
theorem dX5_obey_200 : decode cX5_obey 200 = .ok (.ireturn, 1) := by decide +kernel
theorem dX5_giveInMind_0 : decode cX5_giveInMind 0 = .ok (.aload_n 0, 1) := by decide +kernel
theorem dX5_giveInMind_1 : decode cX5_giveInMind 1 = .ok (.getfield 16, 3) := by decide +kernel
theorem dX5_giveInMind_4 : decode cX5_giveInMind 4 = .ok (.getfield 96, 3) := by decide +kernel
theorem dX5_giveInMind_7 : decode cX5_giveInMind 7 = .ok (.iload_n 1, 1) := by decide +kernel
theorem dX5_giveInMind_8 : decode cX5_giveInMind 8 = .ok (.invokevirtual 105, 3) := by decide +kernel
theorem dX5_giveInMind_11 : decode cX5_giveInMind 11 = .ok (.ifCond .eq 17, 3) := by decide +kernel
theorem dX5_giveInMind_14 : decode cX5_giveInMind 14 = .ok (.aload_n 0, 1) := by decide +kernel
theorem dX5_giveInMind_15 : decode cX5_giveInMind 15 = .ok (.getfield 16, 3) := by decide +kernel
theorem dX5_giveInMind_18 : decode cX5_giveInMind 18 = .ok (.getfield 70, 3) := by decide +kernel
theorem dX5_giveInMind_21 : decode cX5_giveInMind 21 = .ok (.iload_n 2, 1) := by decide +kernel
theorem dX5_giveInMind_22 : decode cX5_giveInMind 22 = .ok (.invokevirtual 74, 3) := by decide +kernel
theorem dX5_giveInMind_25 : decode cX5_giveInMind 25 = .ok (.ifCond .ne 5, 3) := by decide +kernel
theorem dX5_giveInMind_28 : decode cX5_giveInMind 28 = .ok (.iconst 0, 1) := by decide +kernel
theorem dX5_giveInMind_29 : decode cX5_giveInMind 29 = .ok (.ireturn, 1) := by decide +kernel
theorem dX5_giveInMind_30 : decode cX5_giveInMind 30 = .ok (.aload_n 0, 1) := by decide +kernel
theorem dX5_giveInMind_31 : decode cX5_giveInMind 31 = .ok (.getfield 16, 3) := by decide +kernel
theorem dX5_giveInMind_34 : decode cX5_giveInMind 34 = .ok (.iload_n 1, 1) := by decide +kernel
theorem dX5_giveInMind_35 : decode cX5_giveInMind 35 = .ok (.iload_n 2, 1) := by decide +kernel
theorem dX5_giveInMind_36 : decode cX5_giveInMind 36 = .ok (.invokevirtual 155, 3) := by decide +kernel
theorem dX5_giveInMind_39 : decode cX5_giveInMind 39 = .ok (.iconst 1, 1) := by decide +kernel
theorem dX5_giveInMind_40 : decode cX5_giveInMind 40 = .ok (.ireturn, 1) := by decide +kernel
theorem dX5_setLoudInMind_0 : decode cX5_setLoudInMind 0 = .ok (.iload_n 1, 1) := by decide +kernel
theorem dX5_setLoudInMind_1 : decode cX5_setLoudInMind 1 = .ok (.iconst 1, 1) := by decide +kernel
theorem dX5_setLoudInMind_2 : decode cX5_setLoudInMind 2 = .ok (.bipush 20, 2) := by decide +kernel
theorem dX5_setLoudInMind_4 : decode cX5_setLoudInMind 4 = .ok (.invokestatic 44, 3) := by decide +kernel
theorem dX5_setLoudInMind_7 : decode cX5_setLoudInMind 7 = .ok (.ifCond .eq 5, 3) := by decide +kernel
theorem dX5_setLoudInMind_10 : decode cX5_setLoudInMind 10 = .ok (.iconst 0, 1) := by decide +kernel
theorem dX5_setLoudInMind_11 : decode cX5_setLoudInMind 11 = .ok (.ireturn, 1) := by decide +kernel
theorem dX5_setLoudInMind_12 : decode cX5_setLoudInMind 12 = .ok (.aload_n 0, 1) := by decide +kernel
theorem dX5_setLoudInMind_13 : decode cX5_setLoudInMind 13 = .ok (.getfield 16, 3) := by decide +kernel
theorem dX5_setLoudInMind_16 : decode cX5_setLoudInMind 16 = .ok (.iload_n 1, 1) := by decide +kernel
theorem dX5_setLoudInMind_17 : decode cX5_setLoudInMind 17 = .ok (.putfield 125, 3) := by decide +kernel
theorem dX5_setLoudInMind_20 : decode cX5_setLoudInMind 20 = .ok (.iconst 1, 1) := by decide +kernel
theorem dX5_setLoudInMind_21 : decode cX5_setLoudInMind 21 = .ok (.ireturn, 1) := by decide +kernel
theorem dJ0_length_8abf5_0 : decode cJ0_length_8abf5 0 = .ok (.aload_n 0, 1) := by decide +kernel
theorem dJ0_length_8abf5_1 : decode cJ0_length_8abf5 1 = .ok (.getfield 9, 3) := by decide +kernel
theorem dJ0_length_8abf5_4 : decode cJ0_length_8abf5 4 = .ok (.arraylength, 1) := by decide +kernel
theorem dJ0_length_8abf5_5 : decode cJ0_length_8abf5 5 = .ok (.aload_n 0, 1) := by decide +kernel
theorem dJ0_length_8abf5_6 : decode cJ0_length_8abf5 6 = .ok (.invokevirtual 335, 3) := by decide +kernel
theorem dJ0_length_8abf5_9 : decode cJ0_length_8abf5 9 = .ok (.ishr, 1) := by decide +kernel
theorem dJ0_length_8abf5_10 : decode cJ0_length_8abf5 10 = .ok (.ireturn, 1) := by decide +kernel
theorem dJ0_indexOf_0f7a4_0 : decode cJ0_indexOf_0f7a4 0 = .ok (.aload_n 0, 1) := by decide +kernel
theorem dJ0_indexOf_0f7a4_1 : decode cJ0_indexOf_0f7a4 1 = .ok (.iload_n 1, 1) := by decide +kernel
theorem dJ0_indexOf_0f7a4_2 : decode cJ0_indexOf_0f7a4 2 = .ok (.iconst 0, 1) := by decide +kernel
theorem dJ0_indexOf_0f7a4_3 : decode cJ0_indexOf_0f7a4 3 = .ok (.invokevirtual 633, 3) := by decide +kernel
theorem dJ0_indexOf_0f7a4_6 : decode cJ0_indexOf_0f7a4 6 = .ok (.ireturn, 1) := by decide +kernel
theorem dJ0_indexOf_7cf53_0 : decode cJ0_indexOf_7cf53 0 = .ok (.aload_n 0, 1) := by decide +kernel
theorem dJ0_indexOf_7cf53_1 : decode cJ0_indexOf_7cf53 1 = .ok (.invokevirtual 492, 3) := by decide +kernel
theorem dJ0_indexOf_7cf53_4 : decode cJ0_indexOf_7cf53 4 = .ok (.ifCond .eq 19, 3) := by decide +kernel
theorem dJ0_indexOf_7cf53_7 : decode cJ0_indexOf_7cf53 7 = .ok (.aload_n 0, 1) := by decide +kernel
theorem dJ0_indexOf_7cf53_8 : decode cJ0_indexOf_7cf53 8 = .ok (.getfield 9, 3) := by decide +kernel
theorem dJ0_indexOf_7cf53_11 : decode cJ0_indexOf_7cf53 11 = .ok (.iload_n 1, 1) := by decide +kernel
theorem dJ0_indexOf_7cf53_12 : decode cJ0_indexOf_7cf53 12 = .ok (.iload_n 2, 1) := by decide +kernel
theorem dJ0_indexOf_7cf53_13 : decode cJ0_indexOf_7cf53 13 = .ok (.aload_n 0, 1) := by decide +kernel
theorem dJ0_indexOf_7cf53_14 : decode cJ0_indexOf_7cf53 14 = .ok (.invokevirtual 505, 3) := by decide +kernel
theorem dJ0_indexOf_7cf53_17 : decode cJ0_indexOf_7cf53 17 = .ok (.invokestatic 637, 3) := by decide +kernel
theorem dJ0_indexOf_7cf53_20 : decode cJ0_indexOf_7cf53 20 = .ok (.goto 16, 3) := by decide +kernel
theorem dJ0_indexOf_7cf53_23 : decode cJ0_indexOf_7cf53 23 = .ok (.aload_n 0, 1) := by decide +kernel
theorem dJ0_indexOf_7cf53_24 : decode cJ0_indexOf_7cf53 24 = .ok (.getfield 9, 3) := by decide +kernel
theorem dJ0_indexOf_7cf53_27 : decode cJ0_indexOf_7cf53 27 = .ok (.iload_n 1, 1) := by decide +kernel
theorem dJ0_indexOf_7cf53_28 : decode cJ0_indexOf_7cf53 28 = .ok (.iload_n 2, 1) := by decide +kernel
theorem dJ0_indexOf_7cf53_29 : decode cJ0_indexOf_7cf53 29 = .ok (.aload_n 0, 1) := by decide +kernel
theorem dJ0_indexOf_7cf53_30 : decode cJ0_indexOf_7cf53 30 = .ok (.invokevirtual 505, 3) := by decide +kernel
theorem dJ0_indexOf_7cf53_33 : decode cJ0_indexOf_7cf53 33 = .ok (.invokestatic 640, 3) := by decide +kernel
theorem dJ0_indexOf_7cf53_36 : decode cJ0_indexOf_7cf53 36 = .ok (.ireturn, 1) := by decide +kernel
theorem dJ0_coder_7d493_0 : decode cJ0_coder_7d493 0 = .ok (.getstatic 38, 3) := by decide +kernel
theorem dJ0_coder_7d493_3 : decode cJ0_coder_7d493 3 = .ok (.ifCond .eq 10, 3) := by decide +kernel
theorem dJ0_coder_7d493_6 : decode cJ0_coder_7d493 6 = .ok (.aload_n 0, 1) := by decide +kernel
theorem dJ0_coder_7d493_7 : decode cJ0_coder_7d493 7 = .ok (.getfield 15, 3) := by decide +kernel
theorem dJ0_coder_7d493_10 : decode cJ0_coder_7d493 10 = .ok (.goto 4, 3) := by decide +kernel
theorem dJ0_coder_7d493_13 : decode cJ0_coder_7d493 13 = .ok (.iconst 1, 1) := by decide +kernel
theorem dJ0_coder_7d493_14 : decode cJ0_coder_7d493 14 = .ok (.ireturn, 1) := by decide +kernel
theorem dJ0_isLatin1_aae02_0 : decode cJ0_isLatin1_aae02 0 = .ok (.getstatic 38, 3) := by decide +kernel
theorem dJ0_isLatin1_aae02_3 : decode cJ0_isLatin1_aae02 3 = .ok (.ifCond .eq 14, 3) := by decide +kernel
theorem dJ0_isLatin1_aae02_6 : decode cJ0_isLatin1_aae02 6 = .ok (.aload_n 0, 1) := by decide +kernel
theorem dJ0_isLatin1_aae02_7 : decode cJ0_isLatin1_aae02 7 = .ok (.getfield 15, 3) := by decide +kernel
theorem dJ0_isLatin1_aae02_10 : decode cJ0_isLatin1_aae02 10 = .ok (.ifCond .ne 7, 3) := by decide +kernel
theorem dJ0_isLatin1_aae02_13 : decode cJ0_isLatin1_aae02 13 = .ok (.iconst 1, 1) := by decide +kernel
theorem dJ0_isLatin1_aae02_14 : decode cJ0_isLatin1_aae02 14 = .ok (.goto 4, 3) := by decide +kernel
theorem dJ0_isLatin1_aae02_17 : decode cJ0_isLatin1_aae02 17 = .ok (.iconst 0, 1) := by decide +kernel
theorem dJ0_isLatin1_aae02_18 : decode cJ0_isLatin1_aae02 18 = .ok (.ireturn, 1) := by decide +kernel
theorem dJ0_checkBoundsBeginEnd_23922_0 : decode cJ0_checkBoundsBeginEnd_23922 0 = .ok (.iload_n 0, 1) := by decide +kernel
theorem dJ0_checkBoundsBeginEnd_23922_1 : decode cJ0_checkBoundsBeginEnd_23922 1 = .ok (.iload_n 1, 1) := by decide +kernel
theorem dJ0_checkBoundsBeginEnd_23922_2 : decode cJ0_checkBoundsBeginEnd_23922 2 = .ok (.iload_n 2, 1) := by decide +kernel
theorem dJ0_checkBoundsBeginEnd_23922_3 : decode cJ0_checkBoundsBeginEnd_23922 3 = .ok (.getstatic 1053, 3) := by decide +kernel
theorem dJ0_checkBoundsBeginEnd_23922_6 : decode cJ0_checkBoundsBeginEnd_23922 6 = .ok (.invokestatic 1062, 3) := by decide +kernel
theorem dJ0_checkBoundsBeginEnd_23922_9 : decode cJ0_checkBoundsBeginEnd_23922 9 = .ok (.pop, 1) := by decide +kernel
theorem dJ0_checkBoundsBeginEnd_23922_10 : decode cJ0_checkBoundsBeginEnd_23922 10 = .ok (.return_, 1) := by decide +kernel
theorem dJ1_canEncode_9a6ad_0 : decode cJ1_canEncode_9a6ad 0 = .ok (.iload_n 0, 1) := by decide +kernel
theorem dJ1_canEncode_9a6ad_1 : decode cJ1_canEncode_9a6ad 1 = .ok (.ifCond .lt 14, 3) := by decide +kernel
theorem dJ1_canEncode_9a6ad_4 : decode cJ1_canEncode_9a6ad 4 = .ok (.iload_n 0, 1) := by decide +kernel
theorem dJ1_canEncode_9a6ad_5 : decode cJ1_canEncode_9a6ad 5 = .ok (.sipush 255, 3) := by decide +kernel
theorem dJ1_canEncode_9a6ad_8 : decode cJ1_canEncode_9a6ad 8 = .ok (.if_icmp .gt 7, 3) := by decide +kernel
theorem dJ1_canEncode_9a6ad_11 : decode cJ1_canEncode_9a6ad 11 = .ok (.iconst 1, 1) := by decide +kernel
theorem dJ1_canEncode_9a6ad_12 : decode cJ1_canEncode_9a6ad 12 = .ok (.goto 4, 3) := by decide +kernel
theorem dJ1_canEncode_9a6ad_15 : decode cJ1_canEncode_9a6ad 15 = .ok (.iconst 0, 1) := by decide +kernel
theorem dJ1_canEncode_9a6ad_16 : decode cJ1_canEncode_9a6ad 16 = .ok (.ireturn, 1) := by decide +kernel
theorem dJ1_indexOf_4cfef_0 : decode cJ1_indexOf_4cfef 0 = .ok (.iload_n 1, 1) := by decide +kernel
theorem dJ1_indexOf_4cfef_1 : decode cJ1_indexOf_4cfef 1 = .ok (.invokestatic 88, 3) := by decide +kernel
theorem dJ1_indexOf_4cfef_4 : decode cJ1_indexOf_4cfef 4 = .ok (.ifCond .ne 5, 3) := by decide +kernel
theorem dJ1_indexOf_4cfef_7 : decode cJ1_indexOf_4cfef 7 = .ok (.iconst (-1), 1) := by decide +kernel
theorem dJ1_indexOf_4cfef_8 : decode cJ1_indexOf_4cfef 8 = .ok (.ireturn, 1) := by decide +kernel
theorem dJ1_indexOf_4cfef_9 : decode cJ1_indexOf_4cfef 9 = .ok (.iload_n 2, 1) := by decide +kernel
theorem dJ1_indexOf_4cfef_10 : decode cJ1_indexOf_4cfef 10 = .ok (.iconst 0, 1) := by decide +kernel
theorem dJ1_indexOf_4cfef_11 : decode cJ1_indexOf_4cfef 11 = .ok (.invokestatic 92, 3) := by decide +kernel
theorem dJ1_indexOf_4cfef_14 : decode cJ1_indexOf_4cfef 14 = .ok (.istore_n 2, 1) := by decide +kernel
theorem dJ1_indexOf_4cfef_15 : decode cJ1_indexOf_4cfef 15 = .ok (.iload_n 3, 1) := by decide +kernel
theorem dJ1_indexOf_4cfef_16 : decode cJ1_indexOf_4cfef 16 = .ok (.aload_n 0, 1) := by decide +kernel
theorem dJ1_indexOf_4cfef_17 : decode cJ1_indexOf_4cfef 17 = .ok (.arraylength, 1) := by decide +kernel
theorem dJ1_indexOf_4cfef_18 : decode cJ1_indexOf_4cfef 18 = .ok (.invokestatic 38, 3) := by decide +kernel
theorem dJ1_indexOf_4cfef_21 : decode cJ1_indexOf_4cfef 21 = .ok (.istore_n 3, 1) := by decide +kernel
theorem dJ1_indexOf_4cfef_22 : decode cJ1_indexOf_4cfef 22 = .ok (.iload_n 2, 1) := by decide +kernel
theorem dJ1_indexOf_4cfef_23 : decode cJ1_indexOf_4cfef 23 = .ok (.iload_n 3, 1) := by decide +kernel
theorem dJ1_indexOf_4cfef_24 : decode cJ1_indexOf_4cfef 24 = .ok (.if_icmp .lt 5, 3) := by decide +kernel
theorem dJ1_indexOf_4cfef_27 : decode cJ1_indexOf_4cfef 27 = .ok (.iconst (-1), 1) := by decide +kernel
theorem dJ1_indexOf_4cfef_28 : decode cJ1_indexOf_4cfef 28 = .ok (.ireturn, 1) := by decide +kernel
theorem dJ1_indexOf_4cfef_29 : decode cJ1_indexOf_4cfef 29 = .ok (.aload_n 0, 1) := by decide +kernel
theorem dJ1_indexOf_4cfef_30 : decode cJ1_indexOf_4cfef 30 = .ok (.iload_n 1, 1) := by decide +kernel
theorem dJ1_indexOf_4cfef_31 : decode cJ1_indexOf_4cfef 31 = .ok (.iload_n 2, 1) := by decide +kernel
theorem dJ1_indexOf_4cfef_32 : decode cJ1_indexOf_4cfef 32 = .ok (.iload_n 3, 1) := by decide +kernel
theorem dJ1_indexOf_4cfef_33 : decode cJ1_indexOf_4cfef 33 = .ok (.invokestatic 95, 3) := by decide +kernel
theorem dJ1_indexOf_4cfef_36 : decode cJ1_indexOf_4cfef 36 = .ok (.ireturn, 1) := by decide +kernel
theorem dJ1_indexOfChar_4cfef_0 : decode cJ1_indexOfChar_4cfef 0 = .ok (.iload_n 1, 1) := by decide +kernel
theorem dJ1_indexOfChar_4cfef_1 : decode cJ1_indexOfChar_4cfef 1 = .ok (.i2b, 1) := by decide +kernel
theorem dJ1_indexOfChar_4cfef_2 : decode cJ1_indexOfChar_4cfef 2 = .ok (.istore 4, 2) := by decide +kernel
theorem dJ1_indexOfChar_4cfef_4 : decode cJ1_indexOfChar_4cfef 4 = .ok (.iload_n 2, 1) := by decide +kernel
theorem dJ1_indexOfChar_4cfef_5 : decode cJ1_indexOfChar_4cfef 5 = .ok (.istore 5, 2) := by decide +kernel
theorem dJ1_indexOfChar_4cfef_7 : decode cJ1_indexOfChar_4cfef 7 = .ok (.iload 5, 2) := by decide +kernel
theorem dJ1_indexOfChar_4cfef_9 : decode cJ1_indexOfChar_4cfef 9 = .ok (.iload_n 3, 1) := by decide +kernel
theorem dJ1_indexOfChar_4cfef_10 : decode cJ1_indexOfChar_4cfef 10 = .ok (.if_icmp .ge 21, 3) := by decide +kernel
theorem dJ1_indexOfChar_4cfef_13 : decode cJ1_indexOfChar_4cfef 13 = .ok (.aload_n 0, 1) := by decide +kernel
theorem dJ1_indexOfChar_4cfef_14 : decode cJ1_indexOfChar_4cfef 14 = .ok (.iload 5, 2) := by decide +kernel
theorem dJ1_indexOfChar_4cfef_16 : decode cJ1_indexOfChar_4cfef 16 = .ok (.baload, 1) := by decide +kernel
theorem dJ1_indexOfChar_4cfef_17 : decode cJ1_indexOfChar_4cfef 17 = .ok (.iload 4, 2) := by decide +kernel
theorem dJ1_indexOfChar_4cfef_19 : decode cJ1_indexOfChar_4cfef 19 = .ok (.if_icmp .ne 6, 3) := by decide +kernel
theorem dJ1_indexOfChar_4cfef_22 : decode cJ1_indexOfChar_4cfef 22 = .ok (.iload 5, 2) := by decide +kernel
theorem dJ1_indexOfChar_4cfef_24 : decode cJ1_indexOfChar_4cfef 24 = .ok (.ireturn, 1) := by decide +kernel
theorem dJ1_indexOfChar_4cfef_25 : decode cJ1_indexOfChar_4cfef 25 = .ok (.iinc 5 1, 3) := by decide +kernel
theorem dJ1_indexOfChar_4cfef_28 : decode cJ1_indexOfChar_4cfef 28 = .ok (.goto (-21), 3) := by decide +kernel
theorem dJ1_indexOfChar_4cfef_31 : decode cJ1_indexOfChar_4cfef 31 = .ok (.iconst (-1), 1) := by decide +kernel
theorem dJ1_indexOfChar_4cfef_32 : decode cJ1_indexOfChar_4cfef 32 = .ok (.ireturn, 1) := by decide +kernel
end
section
theorem dX6_init_0 : decode cX6_init 0 = .ok (.aload_n 0, 1) := by decide +kernel
theorem dX6_init_1 : decode cX6_init 1 = .ok (.invokespecial 1, 3) := by decide +kernel
theorem dX6_init_4 : decode cX6_init 4 = .ok (.aload_n 0, 1) := by decide +kernel
theorem dX6_init_5 : decode cX6_init 5 = .ok (.bipush 7, 2) := by decide +kernel
theorem dX6_init_7 : decode cX6_init 7 = .ok (.newarray .int, 2) := by decide +kernel
theorem dX6_init_9 : decode cX6_init 9 = .ok (.putfield 7, 3) := by decide +kernel
theorem dX6_init_12 : decode cX6_init 12 = .ok (.aload_n 0, 1) := by decide +kernel
theorem dX6_init_13 : decode cX6_init 13 = .ok (.bipush 73, 2) := by decide +kernel
theorem dX6_init_15 : decode cX6_init 15 = .ok (.newarray .int, 2) := by decide +kernel
theorem dX6_init_17 : decode cX6_init 17 = .ok (.putfield 13, 3) := by decide +kernel
theorem dX6_init_20 : decode cX6_init 20 = .ok (.aload_n 0, 1) := by decide +kernel
theorem dX6_init_21 : decode cX6_init 21 = .ok (.bipush 73, 2) := by decide +kernel
theorem dX6_init_23 : decode cX6_init 23 = .ok (.newarray .int, 2) := by decide +kernel
theorem dX6_init_25 : decode cX6_init 25 = .ok (.putfield 16, 3) := by decide +kernel
theorem dX6_init_28 : decode cX6_init 28 = .ok (.aload_n 0, 1) := by decide +kernel
theorem dX6_init_29 : decode cX6_init 29 = .ok (.bipush 73, 2) := by decide +kernel
theorem dX6_init_31 : decode cX6_init 31 = .ok (.newarray .int, 2) := by decide +kernel
theorem dX6_init_33 : decode cX6_init 33 = .ok (.putfield 19, 3) := by decide +kernel
theorem dX6_init_36 : decode cX6_init 36 = .ok (.aload_n 0, 1) := by decide +kernel
theorem dX6_init_37 : decode cX6_init 37 = .ok (.bipush 73, 2) := by decide +kernel
theorem dX6_init_39 : decode cX6_init 39 = .ok (.newarray .int, 2) := by decide +kernel
theorem dX6_init_41 : decode cX6_init 41 = .ok (.putfield 22, 3) := by decide +kernel
theorem dX6_init_44 : decode cX6_init 44 = .ok (.aload_n 0, 1) := by decide +kernel
theorem dX6_init_45 : decode cX6_init 45 = .ok (.bipush 6, 2) := by decide +kernel
theorem dX6_init_47 : decode cX6_init 47 = .ok (.newarray .int, 2) := by decide +kernel
theorem dX6_init_49 : decode cX6_init 49 = .ok (.putfield 25, 3) := by decide +kernel
theorem dX6_init_52 : decode cX6_init 52 = .ok (.aload_n 0, 1) := by decide +kernel
theorem dX6_init_53 : decode cX6_init 53 = .ok (.bipush 6, 2) := by decide +kernel
theorem dX6_init_55 : decode cX6_init 55 = .ok (.newarray .int, 2) := by decide +kernel
theorem dX6_init_57 : decode cX6_init 57 = .ok (.putfield 28, 3) := by decide +kernel
theorem dX6_init_60 : decode cX6_init 60 = .ok (.aload_n 0, 1) := by decide +kernel
theorem dX6_init_61 : decode cX6_init 61 = .ok (.bipush 6, 2) := by decide +kernel
theorem dX6_init_63 : decode cX6_init 63 = .ok (.newarray .int, 2) := by decide +kernel
theorem dX6_init_65 : decode cX6_init 65 = .ok (.putfield 31, 3) := by decide +kernel
theorem dX6_init_68 : decode cX6_init 68 = .ok (.aload_n 0, 1) := by decide +kernel
theorem dX6_init_69 : decode cX6_init 69 = .ok (.bipush 6, 2) := by decide +kernel
theorem dX6_init_71 : decode cX6_init 71 = .ok (.newarray .int, 2) := by decide +kernel
theorem dX6_init_73 : decode cX6_init 73 = .ok (.putfield 34, 3) := by decide +kernel
theorem dX6_init_76 : decode cX6_init 76 = .ok (.aload_n 0, 1) := by decide +kernel
theorem dX6_init_77 : decode cX6_init 77 = .ok (.bipush 6, 2) := by decide +kernel
theorem dX6_init_79 : decode cX6_init 79 = .ok (.newarray .int, 2) := by decide +kernel
theorem dX6_init_81 : decode cX6_init 81 = .ok (.putfield 37, 3) := by decide +kernel
theorem dX6_init_84 : decode cX6_init 84 = .ok (.aload_n 0, 1) := by decide +kernel
theorem dX6_init_85 : decode cX6_init 85 = .ok (.bipush 96, 2) := by decide +kernel
theorem dX6_init_87 : decode cX6_init 87 = .ok (.newarray .int, 2) := by decide +kernel
theorem dX6_init_89 : decode cX6_init 89 = .ok (.putfield 40, 3) := by decide +kernel
theorem dX6_init_92 : decode cX6_init 92 = .ok (.aload_n 0, 1) := by decide +kernel
theorem dX6_init_93 : decode cX6_init 93 = .ok (.iconst 3, 1) := by decide +kernel
theorem dX6_init_94 : decode cX6_init 94 = .ok (.newarray .int, 2) := by decide +kernel
theorem dX6_init_96 : decode cX6_init 96 = .ok (.putfield 43, 3) := by decide +kernel
theorem dX6_init_99 : decode cX6_init 99 = .ok (.aload_n 0, 1) := by decide +kernel
theorem dX6_init_100 : decode cX6_init 100 = .ok (.bipush 6, 2) := by decide +kernel
theorem dX6_init_102 : decode cX6_init 102 = .ok (.newarray .int, 2) := by decide +kernel
theorem dX6_init_104 : decode cX6_init 104 = .ok (.putfield 46, 3) := by decide +kernel
theorem dX6_init_107 : decode cX6_init 107 = .ok (.aload_n 0, 1) := by decide +kernel
theorem dX6_init_108 : decode cX6_init 108 = .ok (.getfield 13, 3) := by decide +kernel
theorem dX6_init_111 : decode cX6_init 111 = .ok (.iconst 5, 1) := by decide +kernel
theorem dX6_init_112 : decode cX6_init 112 = .ok (.bipush 6, 2) := by decide +kernel
theorem dX6_init_114 : decode cX6_init 114 = .ok (.iastore, 1) := by decide +kernel
theorem dX6_init_115 : decode cX6_init 115 = .ok (.return_, 1) := by decide +kernel
theorem dX6_refuse_0 : decode cX6_refuse 0 = .ok (.aload_n 0, 1) := by decide +kernel
theorem dX6_refuse_1 : decode cX6_refuse 1 = .ok (.getfield 7, 3) := by decide +kernel
theorem dX6_refuse_4 : decode cX6_refuse 4 = .ok (.iload_n 1, 1) := by decide +kernel
theorem dX6_refuse_5 : decode cX6_refuse 5 = .ok (.ineg, 1) := by decide +kernel
theorem dX6_refuse_6 : decode cX6_refuse 6 = .ok (.dup2, 1) := by decide +kernel
theorem dX6_refuse_7 : decode cX6_refuse 7 = .ok (.iaload, 1) := by decide +kernel
theorem dX6_refuse_8 : decode cX6_refuse 8 = .ok (.iconst 1, 1) := by decide +kernel
theorem dX6_refuse_9 : decode cX6_refuse 9 = .ok (.iadd, 1) := by decide +kernel
theorem dX6_refuse_10 : decode cX6_refuse 10 = .ok (.iastore, 1) := by decide +kernel
theorem dX6_refuse_11 : decode cX6_refuse 11 = .ok (.iload_n 1, 1) := by decide +kernel
theorem dX6_refuse_12 : decode cX6_refuse 12 = .ok (.ireturn, 1) := by decide +kernel
theorem dX6_isIn_0 : decode cX6_isIn 0 = .ok (.iload_n 0, 1) := by decide +kernel
theorem dX6_isIn_1 : decode cX6_isIn 1 = .ok (.ifCond .lt 12, 3) := by decide +kernel
theorem dX6_isIn_4 : decode cX6_isIn 4 = .ok (.iload_n 0, 1) := by decide +kernel
theorem dX6_isIn_5 : decode cX6_isIn 5 = .ok (.iload_n 1, 1) := by decide +kernel
theorem dX6_isIn_6 : decode cX6_isIn 6 = .ok (.if_icmp .ge 7, 3) := by decide +kernel
theorem dX6_isIn_9 : decode cX6_isIn 9 = .ok (.iconst 1, 1) := by decide +kernel
theorem dX6_isIn_10 : decode cX6_isIn 10 = .ok (.goto 4, 3) := by decide +kernel
theorem dX6_isIn_13 : decode cX6_isIn 13 = .ok (.iconst 0, 1) := by decide +kernel
theorem dX6_isIn_14 : decode cX6_isIn 14 = .ok (.ireturn, 1) := by decide +kernel
theorem dX6_within_0 : decode cX6_within 0 = .ok (.iload_n 0, 1) := by decide +kernel
theorem dX6_within_1 : decode cX6_within 1 = .ok (.iload_n 1, 1) := by decide +kernel
theorem dX6_within_2 : decode cX6_within 2 = .ok (.if_icmp .ge 8, 3) := by decide +kernel
theorem dX6_within_5 : decode cX6_within 5 = .ok (.bipush (-4), 2) := by decide +kernel
theorem dX6_within_7 : decode cX6_within 7 = .ok (.goto 14, 3) := by decide +kernel
theorem dX6_within_10 : decode cX6_within 10 = .ok (.iload_n 0, 1) := by decide +kernel
theorem dX6_within_11 : decode cX6_within 11 = .ok (.iload_n 2, 1) := by decide +kernel
theorem dX6_within_12 : decode cX6_within 12 = .ok (.if_icmp .le 8, 3) := by decide +kernel
theorem dX6_within_15 : decode cX6_within 15 = .ok (.bipush (-6), 2) := by decide +kernel
theorem dX6_within_17 : decode cX6_within 17 = .ok (.goto 4, 3) := by decide +kernel
theorem dX6_within_20 : decode cX6_within 20 = .ok (.iconst 0, 1) := by decide +kernel
theorem dX6_within_21 : decode cX6_within 21 = .ok (.ireturn, 1) := by decide +kernel
theorem dX6_lays_0 : decode cX6_lays 0 = .ok (.iconst 0, 1) := by decide +kernel
theorem dX6_lays_1 : decode cX6_lays 1 = .ok (.istore_n 2, 1) := by decide +kernel
theorem dX6_lays_2 : decode cX6_lays 2 = .ok (.iload_n 2, 1) := by decide +kernel
theorem dX6_lays_3 : decode cX6_lays 3 = .ok (.bipush 73, 2) := by decide +kernel
theorem dX6_lays_5 : decode cX6_lays 5 = .ok (.if_icmp .ge 15, 3) := by decide +kernel
theorem dX6_lays_8 : decode cX6_lays 8 = .ok (.aload_n 1, 1) := by decide +kernel
theorem dX6_lays_9 : decode cX6_lays 9 = .ok (.iload_n 2, 1) := by decide +kernel
theorem dX6_lays_10 : decode cX6_lays 10 = .ok (.aload_n 0, 1) := by decide +kernel
theorem dX6_lays_11 : decode cX6_lays 11 = .ok (.iload_n 2, 1) := by decide +kernel
theorem dX6_lays_12 : decode cX6_lays 12 = .ok (.iaload, 1) := by decide +kernel
theorem dX6_lays_13 : decode cX6_lays 13 = .ok (.iastore, 1) := by decide +kernel
theorem dX6_lays_14 : decode cX6_lays 14 = .ok (.iinc 2 1, 3) := by decide +kernel
theorem dX6_lays_17 : decode cX6_lays 17 = .ok (.goto (-15), 3) := by decide +kernel
theorem dX6_lays_20 : decode cX6_lays 20 = .ok (.return_, 1) := by decide +kernel
theorem dX6_begins_0 : decode cX6_begins 0 = .ok (.aload_n 0, 1) := by decide +kernel
theorem dX6_begins_1 : decode cX6_begins 1 = .ok (.getfield 13, 3) := by decide +kernel
theorem dX6_begins_4 : decode cX6_begins 4 = .ok (.aload_n 0, 1) := by decide +kernel
theorem dX6_begins_5 : decode cX6_begins 5 = .ok (.getfield 22, 3) := by decide +kernel
theorem dX6_begins_8 : decode cX6_begins 8 = .ok (.invokestatic 49, 3) := by decide +kernel
theorem dX6_begins_11 : decode cX6_begins 11 = .ok (.return_, 1) := by decide +kernel
theorem dX6_ends_0 : decode cX6_ends 0 = .ok (.aload_n 0, 1) := by decide +kernel
theorem dX6_ends_1 : decode cX6_ends 1 = .ok (.getfield 22, 3) := by decide +kernel
theorem dX6_ends_4 : decode cX6_ends 4 = .ok (.aload_n 0, 1) := by decide +kernel
theorem dX6_ends_5 : decode cX6_ends 5 = .ok (.getfield 13, 3) := by decide +kernel
theorem dX6_ends_8 : decode cX6_ends 8 = .ok (.invokestatic 49, 3) := by decide +kernel
theorem dX6_ends_11 : decode cX6_ends 11 = .ok (.return_, 1) := by decide +kernel
theorem dX6_isHead_0 : decode cX6_isHead 0 = .ok (.iload_n 1, 1) := by decide +kernel
theorem dX6_isHead_1 : decode cX6_isHead 1 = .ok (.aload_n 0, 1) := by decide +kernel
theorem dX6_isHead_2 : decode cX6_isHead 2 = .ok (.getfield 13, 3) := by decide +kernel
theorem dX6_isHead_5 : decode cX6_isHead 5 = .ok (.iconst 3, 1) := by decide +kernel
theorem dX6_isHead_6 : decode cX6_isHead 6 = .ok (.iaload, 1) := by decide +kernel
theorem dX6_isHead_7 : decode cX6_isHead 7 = .ok (.invokestatic 53, 3) := by decide +kernel
theorem dX6_isHead_10 : decode cX6_isHead 10 = .ok (.ireturn, 1) := by decide +kernel
theorem dX6_isSong_0 : decode cX6_isSong 0 = .ok (.iload_n 1, 1) := by decide +kernel
theorem dX6_isSong_1 : decode cX6_isSong 1 = .ok (.aload_n 0, 1) := by decide +kernel
theorem dX6_isSong_2 : decode cX6_isSong 2 = .ok (.getfield 13, 3) := by decide +kernel
theorem dX6_isSong_5 : decode cX6_isSong 5 = .ok (.iconst 2, 1) := by decide +kernel
theorem dX6_isSong_6 : decode cX6_isSong 6 = .ok (.iaload, 1) := by decide +kernel
theorem dX6_isSong_7 : decode cX6_isSong 7 = .ok (.invokestatic 53, 3) := by decide +kernel
theorem dX6_isSong_10 : decode cX6_isSong 10 = .ok (.ireturn, 1) := by decide +kernel
theorem dX6_at_0 : decode cX6_at 0 = .ok (.aload_n 0, 1) := by decide +kernel
theorem dX6_at_1 : decode cX6_at 1 = .ok (.getfield 13, 3) := by decide +kernel
theorem dX6_at_4 : decode cX6_at 4 = .ok (.bipush 37, 2) := by decide +kernel
theorem dX6_at_6 : decode cX6_at 6 = .ok (.bipush 6, 2) := by decide +kernel
theorem dX6_at_8 : decode cX6_at 8 = .ok (.iload_n 1, 1) := by decide +kernel
theorem dX6_at_9 : decode cX6_at 9 = .ok (.imul, 1) := by decide +kernel
theorem dX6_at_10 : decode cX6_at 10 = .ok (.iadd, 1) := by decide +kernel
theorem dX6_at_11 : decode cX6_at 11 = .ok (.iload_n 2, 1) := by decide +kernel
theorem dX6_at_12 : decode cX6_at 12 = .ok (.iadd, 1) := by decide +kernel
theorem dX6_at_13 : decode cX6_at 13 = .ok (.iaload, 1) := by decide +kernel
theorem dX6_at_14 : decode cX6_at 14 = .ok (.ireturn, 1) := by decide +kernel
theorem dX6_puts_0 : decode cX6_puts 0 = .ok (.aload_n 0, 1) := by decide +kernel
theorem dX6_puts_1 : decode cX6_puts 1 = .ok (.getfield 13, 3) := by decide +kernel
theorem dX6_puts_4 : decode cX6_puts 4 = .ok (.bipush 37, 2) := by decide +kernel
theorem dX6_puts_6 : decode cX6_puts 6 = .ok (.bipush 6, 2) := by decide +kernel
theorem dX6_puts_8 : decode cX6_puts 8 = .ok (.iload_n 1, 1) := by decide +kernel
theorem dX6_puts_9 : decode cX6_puts 9 = .ok (.imul, 1) := by decide +kernel
theorem dX6_puts_10 : decode cX6_puts 10 = .ok (.iadd, 1) := by decide +kernel
theorem dX6_puts_11 : decode cX6_puts 11 = .ok (.iload_n 2, 1) := by decide +kernel
theorem dX6_puts_12 : decode cX6_puts 12 = .ok (.iadd, 1) := by decide +kernel
theorem dX6_puts_13 : decode cX6_puts 13 = .ok (.iload_n 3, 1) := by decide +kernel
theorem dX6_puts_14 : decode cX6_puts 14 = .ok (.iastore, 1) := by decide +kernel
theorem dX6_puts_15 : decode cX6_puts 15 = .ok (.return_, 1) := by decide +kernel
theorem dX6_of_0 : decode cX6_of 0 = .ok (.aload_n 0, 1) := by decide +kernel
theorem dX6_of_1 : decode cX6_of 1 = .ok (.getfield 13, 3) := by decide +kernel
theorem dX6_of_4 : decode cX6_of 4 = .ok (.bipush 22, 2) := by decide +kernel
theorem dX6_of_6 : decode cX6_of 6 = .ok (.iconst 3, 1) := by decide +kernel
theorem dX6_of_7 : decode cX6_of 7 = .ok (.iload_n 1, 1) := by decide +kernel
theorem dX6_of_8 : decode cX6_of 8 = .ok (.imul, 1) := by decide +kernel
theorem dX6_of_9 : decode cX6_of 9 = .ok (.iadd, 1) := by decide +kernel
theorem dX6_of_10 : decode cX6_of 10 = .ok (.iload_n 2, 1) := by decide +kernel
theorem dX6_of_11 : decode cX6_of 11 = .ok (.iadd, 1) := by decide +kernel
theorem dX6_of_12 : decode cX6_of 12 = .ok (.iaload, 1) := by decide +kernel
theorem dX6_of_13 : decode cX6_of 13 = .ok (.ireturn, 1) := by decide +kernel
theorem dX6_fresh_0 : decode cX6_fresh 0 = .ok (.iconst 2, 1) := by decide +kernel
theorem dX6_fresh_1 : decode cX6_fresh 1 = .ok (.aload_n 0, 1) := by decide +kernel
theorem dX6_fresh_2 : decode cX6_fresh 2 = .ok (.iload_n 1, 1) := by decide +kernel
theorem dX6_fresh_3 : decode cX6_fresh 3 = .ok (.iconst 1, 1) := by decide +kernel
theorem dX6_fresh_4 : decode cX6_fresh 4 = .ok (.invokevirtual 57, 3) := by decide +kernel
theorem dX6_fresh_7 : decode cX6_fresh 7 = .ok (.imul, 1) := by decide +kernel
theorem dX6_fresh_8 : decode cX6_fresh 8 = .ok (.aload_n 0, 1) := by decide +kernel
theorem dX6_fresh_9 : decode cX6_fresh 9 = .ok (.iload_n 1, 1) := by decide +kernel
theorem dX6_fresh_10 : decode cX6_fresh 10 = .ok (.iconst 2, 1) := by decide +kernel
theorem dX6_fresh_11 : decode cX6_fresh 11 = .ok (.invokevirtual 57, 3) := by decide +kernel
theorem dX6_fresh_14 : decode cX6_fresh 14 = .ok (.iadd, 1) := by decide +kernel
theorem dX6_fresh_15 : decode cX6_fresh 15 = .ok (.istore_n 2, 1) := by decide +kernel
theorem dX6_fresh_16 : decode cX6_fresh 16 = .ok (.aload_n 0, 1) := by decide +kernel
theorem dX6_fresh_17 : decode cX6_fresh 17 = .ok (.iload_n 1, 1) := by decide +kernel
theorem dX6_fresh_18 : decode cX6_fresh 18 = .ok (.iconst 0, 1) := by decide +kernel
theorem dX6_fresh_19 : decode cX6_fresh 19 = .ok (.invokevirtual 57, 3) := by decide +kernel
theorem dX6_fresh_22 : decode cX6_fresh 22 = .ok (.istore_n 3, 1) := by decide +kernel
theorem dX6_fresh_23 : decode cX6_fresh 23 = .ok (.iload_n 3, 1) := by decide +kernel
theorem dX6_fresh_24 : decode cX6_fresh 24 = .ok (.iconst 2, 1) := by decide +kernel
theorem dX6_fresh_25 : decode cX6_fresh 25 = .ok (.if_icmp .ne 9, 3) := by decide +kernel
theorem dX6_fresh_28 : decode cX6_fresh 28 = .ok (.iload_n 2, 1) := by decide +kernel
theorem dX6_fresh_29 : decode cX6_fresh 29 = .ok (.iconst 3, 1) := by decide +kernel
theorem dX6_fresh_30 : decode cX6_fresh 30 = .ok (.iadd, 1) := by decide +kernel
theorem dX6_fresh_31 : decode cX6_fresh 31 = .ok (.goto 17, 3) := by decide +kernel
theorem dX6_fresh_34 : decode cX6_fresh 34 = .ok (.iload_n 3, 1) := by decide +kernel
theorem dX6_fresh_35 : decode cX6_fresh 35 = .ok (.iconst 4, 1) := by decide +kernel
theorem dX6_fresh_36 : decode cX6_fresh 36 = .ok (.if_icmp .ne 11, 3) := by decide +kernel
theorem dX6_fresh_39 : decode cX6_fresh 39 = .ok (.iconst 2, 1) := by decide +kernel
theorem dX6_fresh_40 : decode cX6_fresh 40 = .ok (.iload_n 2, 1) := by decide +kernel
theorem dX6_fresh_41 : decode cX6_fresh 41 = .ok (.iconst 3, 1) := by decide +kernel
theorem dX6_fresh_42 : decode cX6_fresh 42 = .ok (.iadd, 1) := by decide +kernel
theorem dX6_fresh_43 : decode cX6_fresh 43 = .ok (.imul, 1) := by decide +kernel
theorem dX6_fresh_44 : decode cX6_fresh 44 = .ok (.goto 4, 3) := by decide +kernel
theorem dX6_fresh_47 : decode cX6_fresh 47 = .ok (.iload_n 2, 1) := by decide +kernel
theorem dX6_fresh_48 : decode cX6_fresh 48 = .ok (.ireturn, 1) := by decide +kernel
theorem dX6_fades_0 : decode cX6_fades 0 = .ok (.aload_n 0, 1) := by decide +kernel
theorem dX6_fades_1 : decode cX6_fades 1 = .ok (.iload_n 1, 1) := by decide +kernel
theorem dX6_fades_2 : decode cX6_fades 2 = .ok (.iconst 0, 1) := by decide +kernel
theorem dX6_fades_3 : decode cX6_fades 3 = .ok (.invokevirtual 57, 3) := by decide +kernel
theorem dX6_fades_6 : decode cX6_fades 6 = .ok (.tableswitch 78 1 5 #[34, 36, 38, 57, 60], 34) := by decide +kernel
theorem dX6_fades_40 : decode cX6_fades 40 = .ok (.iconst 1, 1) := by decide +kernel
theorem dX6_fades_41 : decode cX6_fades 41 = .ok (.ireturn, 1) := by decide +kernel
theorem dX6_fades_42 : decode cX6_fades 42 = .ok (.iconst 3, 1) := by decide +kernel
theorem dX6_fades_43 : decode cX6_fades 43 = .ok (.ireturn, 1) := by decide +kernel
theorem dX6_fades_44 : decode cX6_fades 44 = .ok (.aload_n 0, 1) := by decide +kernel
theorem dX6_fades_45 : decode cX6_fades 45 = .ok (.getfield 13, 3) := by decide +kernel
theorem dX6_fades_48 : decode cX6_fades 48 = .ok (.iconst 4, 1) := by decide +kernel
theorem dX6_fades_49 : decode cX6_fades 49 = .ok (.iaload, 1) := by decide +kernel
theorem dX6_fades_50 : decode cX6_fades 50 = .ok (.bipush 6, 2) := by decide +kernel
theorem dX6_fades_52 : decode cX6_fades 52 = .ok (.irem, 1) := by decide +kernel
theorem dX6_fades_53 : decode cX6_fades 53 = .ok (.ifCond .ne 8, 3) := by decide +kernel
theorem dX6_fades_56 : decode cX6_fades 56 = .ok (.bipush (-4), 2) := by decide +kernel
theorem dX6_fades_58 : decode cX6_fades 58 = .ok (.goto 4, 3) := by decide +kernel
theorem dX6_fades_61 : decode cX6_fades 61 = .ok (.iconst 1, 1) := by decide +kernel
theorem dX6_fades_62 : decode cX6_fades 62 = .ok (.ireturn, 1) := by decide +kernel
theorem dX6_fades_63 : decode cX6_fades 63 = .ok (.bipush 6, 2) := by decide +kernel
theorem dX6_fades_65 : decode cX6_fades 65 = .ok (.ireturn, 1) := by decide +kernel
theorem dX6_fades_66 : decode cX6_fades 66 = .ok (.aload_n 0, 1) := by decide +kernel
theorem dX6_fades_67 : decode cX6_fades 67 = .ok (.getfield 13, 3) := by decide +kernel
theorem dX6_fades_70 : decode cX6_fades 70 = .ok (.iconst 4, 1) := by decide +kernel
theorem dX6_fades_71 : decode cX6_fades 71 = .ok (.iaload, 1) := by decide +kernel
theorem dX6_fades_72 : decode cX6_fades 72 = .ok (.iconst 2, 1) := by decide +kernel
theorem dX6_fades_73 : decode cX6_fades 73 = .ok (.irem, 1) := by decide +kernel
theorem dX6_fades_74 : decode cX6_fades 74 = .ok (.iconst 1, 1) := by decide +kernel
theorem dX6_fades_75 : decode cX6_fades 75 = .ok (.if_icmp .ne 7, 3) := by decide +kernel
theorem dX6_fades_78 : decode cX6_fades 78 = .ok (.iconst 0, 1) := by decide +kernel
theorem dX6_fades_79 : decode cX6_fades 79 = .ok (.goto 4, 3) := by decide +kernel
theorem dX6_fades_82 : decode cX6_fades 82 = .ok (.iconst 1, 1) := by decide +kernel
theorem dX6_fades_83 : decode cX6_fades 83 = .ok (.ireturn, 1) := by decide +kernel
theorem dX6_fades_84 : decode cX6_fades 84 = .ok (.iconst 2, 1) := by decide +kernel
theorem dX6_fades_85 : decode cX6_fades 85 = .ok (.ireturn, 1) := by decide +kernel
theorem dX6_hums_0 : decode cX6_hums 0 = .ok (.aload_n 0, 1) := by decide +kernel
theorem dX6_hums_1 : decode cX6_hums 1 = .ok (.iload_n 1, 1) := by decide +kernel
theorem dX6_hums_2 : decode cX6_hums 2 = .ok (.iconst 3, 1) := by decide +kernel
theorem dX6_hums_3 : decode cX6_hums 3 = .ok (.invokevirtual 61, 3) := by decide +kernel
theorem dX6_hums_6 : decode cX6_hums 6 = .ok (.ifCond .ge 5, 3) := by decide +kernel
theorem dX6_hums_9 : decode cX6_hums 9 = .ok (.iconst 0, 1) := by decide +kernel
theorem dX6_hums_10 : decode cX6_hums 10 = .ok (.ireturn, 1) := by decide +kernel
theorem dX6_hums_11 : decode cX6_hums 11 = .ok (.aload_n 0, 1) := by decide +kernel
theorem dX6_hums_12 : decode cX6_hums 12 = .ok (.iload_n 1, 1) := by decide +kernel
theorem dX6_hums_13 : decode cX6_hums 13 = .ok (.iconst 0, 1) := by decide +kernel
theorem dX6_hums_14 : decode cX6_hums 14 = .ok (.invokevirtual 61, 3) := by decide +kernel
theorem dX6_hums_17 : decode cX6_hums 17 = .ok (.tableswitch 56 1 5 #[35, 56, 56, 37, 39], 35) := by decide +kernel
theorem dX6_hums_52 : decode cX6_hums 52 = .ok (.iconst 1, 1) := by decide +kernel
theorem dX6_hums_53 : decode cX6_hums 53 = .ok (.ireturn, 1) := by decide +kernel
theorem dX6_hums_54 : decode cX6_hums 54 = .ok (.iconst 0, 1) := by decide +kernel
theorem dX6_hums_55 : decode cX6_hums 55 = .ok (.ireturn, 1) := by decide +kernel
theorem dX6_hums_56 : decode cX6_hums 56 = .ok (.aload_n 0, 1) := by decide +kernel
theorem dX6_hums_57 : decode cX6_hums 57 = .ok (.getfield 13, 3) := by decide +kernel
theorem dX6_hums_60 : decode cX6_hums 60 = .ok (.iconst 4, 1) := by decide +kernel
theorem dX6_hums_61 : decode cX6_hums 61 = .ok (.iaload, 1) := by decide +kernel
theorem dX6_hums_62 : decode cX6_hums 62 = .ok (.iconst 2, 1) := by decide +kernel
theorem dX6_hums_63 : decode cX6_hums 63 = .ok (.irem, 1) := by decide +kernel
theorem dX6_hums_64 : decode cX6_hums 64 = .ok (.ifCond .ne 7, 3) := by decide +kernel
theorem dX6_hums_67 : decode cX6_hums 67 = .ok (.iconst 1, 1) := by decide +kernel
theorem dX6_hums_68 : decode cX6_hums 68 = .ok (.goto 4, 3) := by decide +kernel
theorem dX6_hums_71 : decode cX6_hums 71 = .ok (.iconst 0, 1) := by decide +kernel
theorem dX6_hums_72 : decode cX6_hums 72 = .ok (.ireturn, 1) := by decide +kernel
theorem dX6_hums_73 : decode cX6_hums 73 = .ok (.aload_n 0, 1) := by decide +kernel
theorem dX6_hums_74 : decode cX6_hums 74 = .ok (.iload_n 1, 1) := by decide +kernel
theorem dX6_hums_75 : decode cX6_hums 75 = .ok (.iconst 4, 1) := by decide +kernel
theorem dX6_hums_76 : decode cX6_hums 76 = .ok (.invokevirtual 61, 3) := by decide +kernel
theorem dX6_hums_79 : decode cX6_hums 79 = .ok (.aload_n 0, 1) := by decide +kernel
theorem dX6_hums_80 : decode cX6_hums 80 = .ok (.getfield 13, 3) := by decide +kernel
theorem dX6_hums_83 : decode cX6_hums 83 = .ok (.iconst 5, 1) := by decide +kernel
theorem dX6_hums_84 : decode cX6_hums 84 = .ok (.iaload, 1) := by decide +kernel
theorem dX6_hums_85 : decode cX6_hums 85 = .ok (.if_icmp .lt 7, 3) := by decide +kernel
theorem dX6_hums_88 : decode cX6_hums 88 = .ok (.iconst 1, 1) := by decide +kernel
theorem dX6_hums_89 : decode cX6_hums 89 = .ok (.goto 4, 3) := by decide +kernel
theorem dX6_hums_92 : decode cX6_hums 92 = .ok (.iconst 0, 1) := by decide +kernel
theorem dX6_hums_93 : decode cX6_hums 93 = .ok (.ireturn, 1) := by decide +kernel
theorem dX6_bar_0 : decode cX6_bar 0 = .ok (.aload_n 0, 1) := by decide +kernel
theorem dX6_bar_1 : decode cX6_bar 1 = .ok (.iload_n 1, 1) := by decide +kernel
theorem dX6_bar_2 : decode cX6_bar 2 = .ok (.iconst 2, 1) := by decide +kernel
theorem dX6_bar_3 : decode cX6_bar 3 = .ok (.invokevirtual 61, 3) := by decide +kernel
theorem dX6_bar_6 : decode cX6_bar 6 = .ok (.istore_n 2, 1) := by decide +kernel
theorem dX6_bar_7 : decode cX6_bar 7 = .ok (.aload_n 0, 1) := by decide +kernel
theorem dX6_bar_8 : decode cX6_bar 8 = .ok (.iload_n 1, 1) := by decide +kernel
theorem dX6_bar_9 : decode cX6_bar 9 = .ok (.iconst 0, 1) := by decide +kernel
theorem dX6_bar_10 : decode cX6_bar 10 = .ok (.invokevirtual 61, 3) := by decide +kernel
theorem dX6_bar_13 : decode cX6_bar 13 = .ok (.tableswitch 44 2 5 #[31, 34, 38, 42], 31) := by decide +kernel
theorem dX6_bar_44 : decode cX6_bar 44 = .ok (.bipush 99, 2) := by decide +kernel
theorem dX6_bar_46 : decode cX6_bar 46 = .ok (.ireturn, 1) := by decide +kernel
theorem dX6_bar_47 : decode cX6_bar 47 = .ok (.iload_n 2, 1) := by decide +kernel
theorem dX6_bar_48 : decode cX6_bar 48 = .ok (.iconst 2, 1) := by decide +kernel
theorem dX6_bar_49 : decode cX6_bar 49 = .ok (.idiv, 1) := by decide +kernel
theorem dX6_bar_50 : decode cX6_bar 50 = .ok (.ireturn, 1) := by decide +kernel
theorem dX6_bar_51 : decode cX6_bar 51 = .ok (.iload_n 2, 1) := by decide +kernel
theorem dX6_bar_52 : decode cX6_bar 52 = .ok (.iconst 3, 1) := by decide +kernel
theorem dX6_bar_53 : decode cX6_bar 53 = .ok (.iadd, 1) := by decide +kernel
theorem dX6_bar_54 : decode cX6_bar 54 = .ok (.ireturn, 1) := by decide +kernel
theorem dX6_bar_55 : decode cX6_bar 55 = .ok (.iconst 0, 1) := by decide +kernel
theorem dX6_bar_56 : decode cX6_bar 56 = .ok (.ireturn, 1) := by decide +kernel
theorem dX6_bar_57 : decode cX6_bar 57 = .ok (.iload_n 2, 1) := by decide +kernel
theorem dX6_bar_58 : decode cX6_bar 58 = .ok (.ireturn, 1) := by decide +kernel
theorem dX6_areNear_0 : decode cX6_areNear 0 = .ok (.aload_n 0, 1) := by decide +kernel
theorem dX6_areNear_1 : decode cX6_areNear 1 = .ok (.iload_n 1, 1) := by decide +kernel
theorem dX6_areNear_2 : decode cX6_areNear 2 = .ok (.iconst 1, 1) := by decide +kernel
theorem dX6_areNear_3 : decode cX6_areNear 3 = .ok (.invokevirtual 61, 3) := by decide +kernel
theorem dX6_areNear_6 : decode cX6_areNear 6 = .ok (.istore_n 3, 1) := by decide +kernel
theorem dX6_areNear_7 : decode cX6_areNear 7 = .ok (.aload_n 0, 1) := by decide +kernel
theorem dX6_areNear_8 : decode cX6_areNear 8 = .ok (.iload_n 2, 1) := by decide +kernel
theorem dX6_areNear_9 : decode cX6_areNear 9 = .ok (.iconst 1, 1) := by decide +kernel
theorem dX6_areNear_10 : decode cX6_areNear 10 = .ok (.invokevirtual 61, 3) := by decide +kernel
theorem dX6_areNear_13 : decode cX6_areNear 13 = .ok (.istore 4, 2) := by decide +kernel
theorem dX6_areNear_15 : decode cX6_areNear 15 = .ok (.iload_n 1, 1) := by decide +kernel
theorem dX6_areNear_16 : decode cX6_areNear 16 = .ok (.iload_n 2, 1) := by decide +kernel
theorem dX6_areNear_17 : decode cX6_areNear 17 = .ok (.if_icmp .ne 5, 3) := by decide +kernel
theorem dX6_areNear_20 : decode cX6_areNear 20 = .ok (.iconst 0, 1) := by decide +kernel
theorem dX6_areNear_21 : decode cX6_areNear 21 = .ok (.ireturn, 1) := by decide +kernel
theorem dX6_areNear_22 : decode cX6_areNear 22 = .ok (.iload_n 3, 1) := by decide +kernel
theorem dX6_areNear_23 : decode cX6_areNear 23 = .ok (.iload 4, 2) := by decide +kernel
theorem dX6_areNear_25 : decode cX6_areNear 25 = .ok (.if_icmp .ne 5, 3) := by decide +kernel
theorem dX6_areNear_28 : decode cX6_areNear 28 = .ok (.iconst 1, 1) := by decide +kernel
theorem dX6_areNear_29 : decode cX6_areNear 29 = .ok (.ireturn, 1) := by decide +kernel
theorem dX6_areNear_30 : decode cX6_areNear 30 = .ok (.iconst 0, 1) := by decide +kernel
theorem dX6_areNear_31 : decode cX6_areNear 31 = .ok (.istore 5, 2) := by decide +kernel
theorem dX6_areNear_33 : decode cX6_areNear 33 = .ok (.iload 5, 2) := by decide +kernel
theorem dX6_areNear_35 : decode cX6_areNear 35 = .ok (.aload_n 0, 1) := by decide +kernel
theorem dX6_areNear_36 : decode cX6_areNear 36 = .ok (.getfield 13, 3) := by decide +kernel
theorem dX6_areNear_39 : decode cX6_areNear 39 = .ok (.iconst 0, 1) := by decide +kernel
theorem dX6_areNear_40 : decode cX6_areNear 40 = .ok (.iaload, 1) := by decide +kernel
theorem dX6_areNear_41 : decode cX6_areNear 41 = .ok (.if_icmp .ge 82, 3) := by decide +kernel
theorem dX6_areNear_44 : decode cX6_areNear 44 = .ok (.aload_n 0, 1) := by decide +kernel
theorem dX6_areNear_45 : decode cX6_areNear 45 = .ok (.getfield 13, 3) := by decide +kernel
theorem dX6_areNear_48 : decode cX6_areNear 48 = .ok (.bipush 6, 2) := by decide +kernel
theorem dX6_areNear_50 : decode cX6_areNear 50 = .ok (.iconst 2, 1) := by decide +kernel
theorem dX6_areNear_51 : decode cX6_areNear 51 = .ok (.iload 5, 2) := by decide +kernel
theorem dX6_areNear_53 : decode cX6_areNear 53 = .ok (.imul, 1) := by decide +kernel
theorem dX6_areNear_54 : decode cX6_areNear 54 = .ok (.iadd, 1) := by decide +kernel
theorem dX6_areNear_55 : decode cX6_areNear 55 = .ok (.iaload, 1) := by decide +kernel
theorem dX6_areNear_56 : decode cX6_areNear 56 = .ok (.istore 6, 2) := by decide +kernel
theorem dX6_areNear_58 : decode cX6_areNear 58 = .ok (.aload_n 0, 1) := by decide +kernel
theorem dX6_areNear_59 : decode cX6_areNear 59 = .ok (.getfield 13, 3) := by decide +kernel
theorem dX6_areNear_62 : decode cX6_areNear 62 = .ok (.bipush 6, 2) := by decide +kernel
theorem dX6_areNear_64 : decode cX6_areNear 64 = .ok (.iconst 2, 1) := by decide +kernel
theorem dX6_areNear_65 : decode cX6_areNear 65 = .ok (.iload 5, 2) := by decide +kernel
theorem dX6_areNear_67 : decode cX6_areNear 67 = .ok (.imul, 1) := by decide +kernel
theorem dX6_areNear_68 : decode cX6_areNear 68 = .ok (.iadd, 1) := by decide +kernel
theorem dX6_areNear_69 : decode cX6_areNear 69 = .ok (.iconst 1, 1) := by decide +kernel
theorem dX6_areNear_70 : decode cX6_areNear 70 = .ok (.iadd, 1) := by decide +kernel
theorem dX6_areNear_71 : decode cX6_areNear 71 = .ok (.iaload, 1) := by decide +kernel
theorem dX6_areNear_72 : decode cX6_areNear 72 = .ok (.istore 7, 2) := by decide +kernel
theorem dX6_areNear_74 : decode cX6_areNear 74 = .ok (.aload_n 0, 1) := by decide +kernel
theorem dX6_areNear_75 : decode cX6_areNear 75 = .ok (.getfield 13, 3) := by decide +kernel
theorem dX6_areNear_78 : decode cX6_areNear 78 = .ok (.iconst 1, 1) := by decide +kernel
theorem dX6_areNear_79 : decode cX6_areNear 79 = .ok (.iaload, 1) := by decide +kernel
theorem dX6_areNear_80 : decode cX6_areNear 80 = .ok (.iload 5, 2) := by decide +kernel
theorem dX6_areNear_82 : decode cX6_areNear 82 = .ok (.ishr, 1) := by decide +kernel
theorem dX6_areNear_83 : decode cX6_areNear 83 = .ok (.iconst 1, 1) := by decide +kernel
theorem dX6_areNear_84 : decode cX6_areNear 84 = .ok (.iand, 1) := by decide +kernel
theorem dX6_areNear_85 : decode cX6_areNear 85 = .ok (.iconst 1, 1) := by decide +kernel
theorem dX6_areNear_86 : decode cX6_areNear 86 = .ok (.if_icmp .ne 31, 3) := by decide +kernel
theorem dX6_areNear_89 : decode cX6_areNear 89 = .ok (.iload 6, 2) := by decide +kernel
theorem dX6_areNear_91 : decode cX6_areNear 91 = .ok (.iload_n 3, 1) := by decide +kernel
theorem dX6_areNear_92 : decode cX6_areNear 92 = .ok (.if_icmp .ne 10, 3) := by decide +kernel
theorem dX6_areNear_95 : decode cX6_areNear 95 = .ok (.iload 7, 2) := by decide +kernel
theorem dX6_areNear_97 : decode cX6_areNear 97 = .ok (.iload 4, 2) := by decide +kernel
theorem dX6_areNear_99 : decode cX6_areNear 99 = .ok (.if_icmp .eq 16, 3) := by decide +kernel
theorem dX6_areNear_102 : decode cX6_areNear 102 = .ok (.iload 6, 2) := by decide +kernel
theorem dX6_areNear_104 : decode cX6_areNear 104 = .ok (.iload 4, 2) := by decide +kernel
theorem dX6_areNear_106 : decode cX6_areNear 106 = .ok (.if_icmp .ne 11, 3) := by decide +kernel
theorem dX6_areNear_109 : decode cX6_areNear 109 = .ok (.iload 7, 2) := by decide +kernel
theorem dX6_areNear_111 : decode cX6_areNear 111 = .ok (.iload_n 3, 1) := by decide +kernel
theorem dX6_areNear_112 : decode cX6_areNear 112 = .ok (.if_icmp .ne 5, 3) := by decide +kernel
theorem dX6_areNear_115 : decode cX6_areNear 115 = .ok (.iconst 1, 1) := by decide +kernel
theorem dX6_areNear_116 : decode cX6_areNear 116 = .ok (.ireturn, 1) := by decide +kernel
theorem dX6_areNear_117 : decode cX6_areNear 117 = .ok (.iinc 5 1, 3) := by decide +kernel
theorem dX6_areNear_120 : decode cX6_areNear 120 = .ok (.goto (-87), 3) := by decide +kernel
theorem dX6_areNear_123 : decode cX6_areNear 123 = .ok (.iconst 0, 1) := by decide +kernel
theorem dX6_areNear_124 : decode cX6_areNear 124 = .ok (.ireturn, 1) := by decide +kernel
theorem dX6_gets_0 : decode cX6_gets 0 = .ok (.aload_n 0, 1) := by decide +kernel
theorem dX6_gets_1 : decode cX6_gets 1 = .ok (.iload_n 1, 1) := by decide +kernel
theorem dX6_gets_2 : decode cX6_gets 2 = .ok (.iconst 3, 1) := by decide +kernel
theorem dX6_gets_3 : decode cX6_gets 3 = .ok (.iload_n 2, 1) := by decide +kernel
theorem dX6_gets_4 : decode cX6_gets 4 = .ok (.ifCond .ge 8, 3) := by decide +kernel
theorem dX6_gets_7 : decode cX6_gets 7 = .ok (.bipush (-9), 2) := by decide +kernel
theorem dX6_gets_9 : decode cX6_gets 9 = .ok (.goto 4, 3) := by decide +kernel
theorem dX6_gets_12 : decode cX6_gets 12 = .ok (.iload_n 2, 1) := by decide +kernel
theorem dX6_gets_13 : decode cX6_gets 13 = .ok (.invokevirtual 64, 3) := by decide +kernel
theorem dX6_gets_16 : decode cX6_gets 16 = .ok (.aload_n 0, 1) := by decide +kernel
theorem dX6_gets_17 : decode cX6_gets 17 = .ok (.iload_n 1, 1) := by decide +kernel
theorem dX6_gets_18 : decode cX6_gets 18 = .ok (.iconst 4, 1) := by decide +kernel
theorem dX6_gets_19 : decode cX6_gets 19 = .ok (.iload_n 2, 1) := by decide +kernel
theorem dX6_gets_20 : decode cX6_gets 20 = .ok (.ifCond .ge 7, 3) := by decide +kernel
theorem dX6_gets_23 : decode cX6_gets 23 = .ok (.iconst 0, 1) := by decide +kernel
theorem dX6_gets_24 : decode cX6_gets 24 = .ok (.goto 8, 3) := by decide +kernel
theorem dX6_gets_27 : decode cX6_gets 27 = .ok (.aload_n 0, 1) := by decide +kernel
theorem dX6_gets_28 : decode cX6_gets 28 = .ok (.iload_n 2, 1) := by decide +kernel
theorem dX6_gets_29 : decode cX6_gets 29 = .ok (.invokevirtual 68, 3) := by decide +kernel
theorem dX6_gets_32 : decode cX6_gets 32 = .ok (.invokevirtual 64, 3) := by decide +kernel
theorem dX6_gets_35 : decode cX6_gets 35 = .ok (.return_, 1) := by decide +kernel
theorem dX6_hears_0 : decode cX6_hears 0 = .ok (.aload_n 0, 1) := by decide +kernel
theorem dX6_hears_1 : decode cX6_hears 1 = .ok (.getfield 25, 3) := by decide +kernel
theorem dX6_hears_4 : decode cX6_hears 4 = .ok (.iload_n 1, 1) := by decide +kernel
theorem dX6_hears_5 : decode cX6_hears 5 = .ok (.bipush (-9), 2) := by decide +kernel
theorem dX6_hears_7 : decode cX6_hears 7 = .ok (.iastore, 1) := by decide +kernel
theorem dX6_hears_8 : decode cX6_hears 8 = .ok (.aload_n 0, 1) := by decide +kernel
theorem dX6_hears_9 : decode cX6_hears 9 = .ok (.getfield 28, 3) := by decide +kernel
theorem dX6_hears_12 : decode cX6_hears 12 = .ok (.iload_n 1, 1) := by decide +kernel
theorem dX6_hears_13 : decode cX6_hears 13 = .ok (.bipush (-9), 2) := by decide +kernel
theorem dX6_hears_15 : decode cX6_hears 15 = .ok (.iastore, 1) := by decide +kernel
theorem dX6_hears_16 : decode cX6_hears 16 = .ok (.iconst 0, 1) := by decide +kernel
theorem dX6_hears_17 : decode cX6_hears 17 = .ok (.istore_n 3, 1) := by decide +kernel
theorem dX6_hears_18 : decode cX6_hears 18 = .ok (.iload_n 3, 1) := by decide +kernel
theorem dX6_hears_19 : decode cX6_hears 19 = .ok (.aload_n 0, 1) := by decide +kernel
theorem dX6_hears_20 : decode cX6_hears 20 = .ok (.getfield 13, 3) := by decide +kernel
theorem dX6_hears_23 : decode cX6_hears 23 = .ok (.iconst 3, 1) := by decide +kernel
theorem dX6_hears_24 : decode cX6_hears 24 = .ok (.iaload, 1) := by decide +kernel
theorem dX6_hears_25 : decode cX6_hears 25 = .ok (.if_icmp .ge 164, 3) := by decide +kernel
theorem dX6_hears_28 : decode cX6_hears 28 = .ok (.iload_n 2, 1) := by decide +kernel
theorem dX6_hears_29 : decode cX6_hears 29 = .ok (.iload_n 3, 1) := by decide +kernel
theorem dX6_hears_30 : decode cX6_hears 30 = .ok (.ishr, 1) := by decide +kernel
theorem dX6_hears_31 : decode cX6_hears 31 = .ok (.iconst 1, 1) := by decide +kernel
theorem dX6_hears_32 : decode cX6_hears 32 = .ok (.iand, 1) := by decide +kernel
theorem dX6_hears_33 : decode cX6_hears 33 = .ok (.ifCond .eq 150, 3) := by decide +kernel
theorem dX6_hears_36 : decode cX6_hears 36 = .ok (.aload_n 0, 1) := by decide +kernel
theorem dX6_hears_37 : decode cX6_hears 37 = .ok (.iload_n 1, 1) := by decide +kernel
theorem dX6_hears_38 : decode cX6_hears 38 = .ok (.iload_n 3, 1) := by decide +kernel
theorem dX6_hears_39 : decode cX6_hears 39 = .ok (.invokevirtual 72, 3) := by decide +kernel
theorem dX6_hears_42 : decode cX6_hears 42 = .ok (.ifCond .eq 141, 3) := by decide +kernel
theorem dX6_hears_45 : decode cX6_hears 45 = .ok (.aload_n 0, 1) := by decide +kernel
theorem dX6_hears_46 : decode cX6_hears 46 = .ok (.iload_n 3, 1) := by decide +kernel
theorem dX6_hears_47 : decode cX6_hears 47 = .ok (.iconst 3, 1) := by decide +kernel
theorem dX6_hears_48 : decode cX6_hears 48 = .ok (.invokevirtual 61, 3) := by decide +kernel
theorem dX6_hears_51 : decode cX6_hears 51 = .ok (.aload_n 0, 1) := by decide +kernel
theorem dX6_hears_52 : decode cX6_hears 52 = .ok (.iload_n 1, 1) := by decide +kernel
theorem dX6_hears_53 : decode cX6_hears 53 = .ok (.iconst 3, 1) := by decide +kernel
theorem dX6_hears_54 : decode cX6_hears 54 = .ok (.invokevirtual 61, 3) := by decide +kernel
theorem dX6_hears_57 : decode cX6_hears 57 = .ok (.if_icmp .ne 6, 3) := by decide +kernel
theorem dX6_hears_60 : decode cX6_hears 60 = .ok (.goto 123, 3) := by decide +kernel
theorem dX6_hears_63 : decode cX6_hears 63 = .ok (.aload_n 0, 1) := by decide +kernel
theorem dX6_hears_64 : decode cX6_hears 64 = .ok (.iload_n 3, 1) := by decide +kernel
theorem dX6_hears_65 : decode cX6_hears 65 = .ok (.iconst 3, 1) := by decide +kernel
theorem dX6_hears_66 : decode cX6_hears 66 = .ok (.invokevirtual 61, 3) := by decide +kernel
theorem dX6_hears_69 : decode cX6_hears 69 = .ok (.istore 4, 2) := by decide +kernel
theorem dX6_hears_71 : decode cX6_hears 71 = .ok (.aload_n 0, 1) := by decide +kernel
theorem dX6_hears_72 : decode cX6_hears 72 = .ok (.getfield 25, 3) := by decide +kernel
theorem dX6_hears_75 : decode cX6_hears 75 = .ok (.iload_n 1, 1) := by decide +kernel
theorem dX6_hears_76 : decode cX6_hears 76 = .ok (.iaload, 1) := by decide +kernel
theorem dX6_hears_77 : decode cX6_hears 77 = .ok (.ifCond .lt 56, 3) := by decide +kernel
theorem dX6_hears_80 : decode cX6_hears 80 = .ok (.aload_n 0, 1) := by decide +kernel
theorem dX6_hears_81 : decode cX6_hears 81 = .ok (.iload 4, 2) := by decide +kernel
theorem dX6_hears_83 : decode cX6_hears 83 = .ok (.iconst 1, 1) := by decide +kernel
theorem dX6_hears_84 : decode cX6_hears 84 = .ok (.invokevirtual 57, 3) := by decide +kernel
theorem dX6_hears_87 : decode cX6_hears 87 = .ok (.aload_n 0, 1) := by decide +kernel
theorem dX6_hears_88 : decode cX6_hears 88 = .ok (.aload_n 0, 1) := by decide +kernel
theorem dX6_hears_89 : decode cX6_hears 89 = .ok (.getfield 25, 3) := by decide +kernel
theorem dX6_hears_92 : decode cX6_hears 92 = .ok (.iload_n 1, 1) := by decide +kernel
theorem dX6_hears_93 : decode cX6_hears 93 = .ok (.iaload, 1) := by decide +kernel
theorem dX6_hears_94 : decode cX6_hears 94 = .ok (.iconst 1, 1) := by decide +kernel
theorem dX6_hears_95 : decode cX6_hears 95 = .ok (.invokevirtual 57, 3) := by decide +kernel
theorem dX6_hears_98 : decode cX6_hears 98 = .ok (.if_icmp .gt 35, 3) := by decide +kernel
theorem dX6_hears_101 : decode cX6_hears 101 = .ok (.aload_n 0, 1) := by decide +kernel
theorem dX6_hears_102 : decode cX6_hears 102 = .ok (.iload 4, 2) := by decide +kernel
theorem dX6_hears_104 : decode cX6_hears 104 = .ok (.iconst 1, 1) := by decide +kernel
theorem dX6_hears_105 : decode cX6_hears 105 = .ok (.invokevirtual 57, 3) := by decide +kernel
theorem dX6_hears_108 : decode cX6_hears 108 = .ok (.aload_n 0, 1) := by decide +kernel
theorem dX6_hears_109 : decode cX6_hears 109 = .ok (.aload_n 0, 1) := by decide +kernel
theorem dX6_hears_110 : decode cX6_hears 110 = .ok (.getfield 25, 3) := by decide +kernel
theorem dX6_hears_113 : decode cX6_hears 113 = .ok (.iload_n 1, 1) := by decide +kernel
theorem dX6_hears_114 : decode cX6_hears 114 = .ok (.iaload, 1) := by decide +kernel
theorem dX6_hears_115 : decode cX6_hears 115 = .ok (.iconst 1, 1) := by decide +kernel
theorem dX6_hears_116 : decode cX6_hears 116 = .ok (.invokevirtual 57, 3) := by decide +kernel
theorem dX6_hears_119 : decode cX6_hears 119 = .ok (.if_icmp .ne 18, 3) := by decide +kernel
theorem dX6_hears_122 : decode cX6_hears 122 = .ok (.iload 4, 2) := by decide +kernel
theorem dX6_hears_124 : decode cX6_hears 124 = .ok (.aload_n 0, 1) := by decide +kernel
theorem dX6_hears_125 : decode cX6_hears 125 = .ok (.getfield 25, 3) := by decide +kernel
theorem dX6_hears_128 : decode cX6_hears 128 = .ok (.iload_n 1, 1) := by decide +kernel
theorem dX6_hears_129 : decode cX6_hears 129 = .ok (.iaload, 1) := by decide +kernel
theorem dX6_hears_130 : decode cX6_hears 130 = .ok (.if_icmp .ge 7, 3) := by decide +kernel
theorem dX6_hears_133 : decode cX6_hears 133 = .ok (.iconst 1, 1) := by decide +kernel
theorem dX6_hears_134 : decode cX6_hears 134 = .ok (.goto 4, 3) := by decide +kernel
theorem dX6_hears_137 : decode cX6_hears 137 = .ok (.iconst 0, 1) := by decide +kernel
theorem dX6_hears_138 : decode cX6_hears 138 = .ok (.istore 5, 2) := by decide +kernel
theorem dX6_hears_140 : decode cX6_hears 140 = .ok (.aload_n 0, 1) := by decide +kernel
theorem dX6_hears_141 : decode cX6_hears 141 = .ok (.getfield 28, 3) := by decide +kernel
theorem dX6_hears_144 : decode cX6_hears 144 = .ok (.iload_n 1, 1) := by decide +kernel
theorem dX6_hears_145 : decode cX6_hears 145 = .ok (.iload 5, 2) := by decide +kernel
theorem dX6_hears_147 : decode cX6_hears 147 = .ok (.ifCond .eq 7, 3) := by decide +kernel
theorem dX6_hears_150 : decode cX6_hears 150 = .ok (.iload_n 3, 1) := by decide +kernel
theorem dX6_hears_151 : decode cX6_hears 151 = .ok (.goto 9, 3) := by decide +kernel
theorem dX6_hears_154 : decode cX6_hears 154 = .ok (.aload_n 0, 1) := by decide +kernel
theorem dX6_hears_155 : decode cX6_hears 155 = .ok (.getfield 28, 3) := by decide +kernel
theorem dX6_hears_158 : decode cX6_hears 158 = .ok (.iload_n 1, 1) := by decide +kernel
theorem dX6_hears_159 : decode cX6_hears 159 = .ok (.iaload, 1) := by decide +kernel
theorem dX6_hears_160 : decode cX6_hears 160 = .ok (.iastore, 1) := by decide +kernel
theorem dX6_hears_161 : decode cX6_hears 161 = .ok (.aload_n 0, 1) := by decide +kernel
theorem dX6_hears_162 : decode cX6_hears 162 = .ok (.getfield 25, 3) := by decide +kernel
theorem dX6_hears_165 : decode cX6_hears 165 = .ok (.iload_n 1, 1) := by decide +kernel
theorem dX6_hears_166 : decode cX6_hears 166 = .ok (.iload 5, 2) := by decide +kernel
theorem dX6_hears_168 : decode cX6_hears 168 = .ok (.ifCond .eq 8, 3) := by decide +kernel
theorem dX6_hears_171 : decode cX6_hears 171 = .ok (.iload 4, 2) := by decide +kernel
theorem dX6_hears_173 : decode cX6_hears 173 = .ok (.goto 9, 3) := by decide +kernel
theorem dX6_hears_176 : decode cX6_hears 176 = .ok (.aload_n 0, 1) := by decide +kernel
theorem dX6_hears_177 : decode cX6_hears 177 = .ok (.getfield 25, 3) := by decide +kernel
theorem dX6_hears_180 : decode cX6_hears 180 = .ok (.iload_n 1, 1) := by decide +kernel
theorem dX6_hears_181 : decode cX6_hears 181 = .ok (.iaload, 1) := by decide +kernel
theorem dX6_hears_182 : decode cX6_hears 182 = .ok (.iastore, 1) := by decide +kernel
theorem dX6_hears_183 : decode cX6_hears 183 = .ok (.iinc 3 1, 3) := by decide +kernel
theorem dX6_hears_186 : decode cX6_hears 186 = .ok (.goto (-168), 3) := by decide +kernel
theorem dX6_hears_189 : decode cX6_hears 189 = .ok (.aload_n 0, 1) := by decide +kernel
theorem dX6_hears_190 : decode cX6_hears 190 = .ok (.getfield 25, 3) := by decide +kernel
theorem dX6_hears_193 : decode cX6_hears 193 = .ok (.iload_n 1, 1) := by decide +kernel
theorem dX6_hears_194 : decode cX6_hears 194 = .ok (.iaload, 1) := by decide +kernel
theorem dX6_hears_195 : decode cX6_hears 195 = .ok (.ifCond .lt 49, 3) := by decide +kernel
theorem dX6_hears_198 : decode cX6_hears 198 = .ok (.aload_n 0, 1) := by decide +kernel
theorem dX6_hears_199 : decode cX6_hears 199 = .ok (.aload_n 0, 1) := by decide +kernel
theorem dX6_hears_200 : decode cX6_hears 200 = .ok (.getfield 25, 3) := by decide +kernel
theorem dX6_hears_203 : decode cX6_hears 203 = .ok (.iload_n 1, 1) := by decide +kernel
theorem dX6_hears_204 : decode cX6_hears 204 = .ok (.iaload, 1) := by decide +kernel
theorem dX6_hears_205 : decode cX6_hears 205 = .ok (.iconst 1, 1) := by decide +kernel
theorem dX6_hears_206 : decode cX6_hears 206 = .ok (.invokevirtual 57, 3) := by decide +kernel
theorem dX6_hears_209 : decode cX6_hears 209 = .ok (.aload_n 0, 1) := by decide +kernel
theorem dX6_hears_210 : decode cX6_hears 210 = .ok (.iload_n 1, 1) := by decide +kernel
theorem dX6_hears_211 : decode cX6_hears 211 = .ok (.invokevirtual 75, 3) := by decide +kernel
theorem dX6_hears_214 : decode cX6_hears 214 = .ok (.if_icmp .le 22, 3) := by decide +kernel
theorem dX6_hears_217 : decode cX6_hears 217 = .ok (.aload_n 0, 1) := by decide +kernel
theorem dX6_hears_218 : decode cX6_hears 218 = .ok (.aload_n 0, 1) := by decide +kernel
theorem dX6_hears_219 : decode cX6_hears 219 = .ok (.getfield 25, 3) := by decide +kernel
theorem dX6_hears_222 : decode cX6_hears 222 = .ok (.iload_n 1, 1) := by decide +kernel
theorem dX6_hears_223 : decode cX6_hears 223 = .ok (.iaload, 1) := by decide +kernel
theorem dX6_hears_224 : decode cX6_hears 224 = .ok (.invokevirtual 68, 3) := by decide +kernel
theorem dX6_hears_227 : decode cX6_hears 227 = .ok (.aload_n 0, 1) := by decide +kernel
theorem dX6_hears_228 : decode cX6_hears 228 = .ok (.iload_n 1, 1) := by decide +kernel
theorem dX6_hears_229 : decode cX6_hears 229 = .ok (.iconst 4, 1) := by decide +kernel
theorem dX6_hears_230 : decode cX6_hears 230 = .ok (.invokevirtual 61, 3) := by decide +kernel
theorem dX6_hears_233 : decode cX6_hears 233 = .ok (.if_icmp .gt 11, 3) := by decide +kernel
theorem dX6_hears_236 : decode cX6_hears 236 = .ok (.aload_n 0, 1) := by decide +kernel
theorem dX6_hears_237 : decode cX6_hears 237 = .ok (.getfield 25, 3) := by decide +kernel
theorem dX6_hears_240 : decode cX6_hears 240 = .ok (.iload_n 1, 1) := by decide +kernel
theorem dX6_hears_241 : decode cX6_hears 241 = .ok (.bipush (-9), 2) := by decide +kernel
theorem dX6_hears_243 : decode cX6_hears 243 = .ok (.iastore, 1) := by decide +kernel
theorem dX6_hears_244 : decode cX6_hears 244 = .ok (.return_, 1) := by decide +kernel
theorem dX6_wanes_0 : decode cX6_wanes 0 = .ok (.aload_n 0, 1) := by decide +kernel
theorem dX6_wanes_1 : decode cX6_wanes 1 = .ok (.iload_n 1, 1) := by decide +kernel
theorem dX6_wanes_2 : decode cX6_wanes 2 = .ok (.iconst 3, 1) := by decide +kernel
theorem dX6_wanes_3 : decode cX6_wanes 3 = .ok (.invokevirtual 61, 3) := by decide +kernel
theorem dX6_wanes_6 : decode cX6_wanes 6 = .ok (.istore_n 2, 1) := by decide +kernel
theorem dX6_wanes_7 : decode cX6_wanes 7 = .ok (.iload_n 2, 1) := by decide +kernel
theorem dX6_wanes_8 : decode cX6_wanes 8 = .ok (.ifCond .ge 4, 3) := by decide +kernel
theorem dX6_wanes_11 : decode cX6_wanes 11 = .ok (.return_, 1) := by decide +kernel
theorem dX6_wanes_12 : decode cX6_wanes 12 = .ok (.aload_n 0, 1) := by decide +kernel
theorem dX6_wanes_13 : decode cX6_wanes 13 = .ok (.iload_n 1, 1) := by decide +kernel
theorem dX6_wanes_14 : decode cX6_wanes 14 = .ok (.iconst 4, 1) := by decide +kernel
theorem dX6_wanes_15 : decode cX6_wanes 15 = .ok (.invokevirtual 61, 3) := by decide +kernel
theorem dX6_wanes_18 : decode cX6_wanes 18 = .ok (.aload_n 0, 1) := by decide +kernel
theorem dX6_wanes_19 : decode cX6_wanes 19 = .ok (.iload_n 2, 1) := by decide +kernel
theorem dX6_wanes_20 : decode cX6_wanes 20 = .ok (.invokevirtual 78, 3) := by decide +kernel
theorem dX6_wanes_23 : decode cX6_wanes 23 = .ok (.isub, 1) := by decide +kernel
theorem dX6_wanes_24 : decode cX6_wanes 24 = .ok (.aload_n 0, 1) := by decide +kernel
theorem dX6_wanes_25 : decode cX6_wanes 25 = .ok (.iload_n 1, 1) := by decide +kernel
theorem dX6_wanes_26 : decode cX6_wanes 26 = .ok (.iconst 5, 1) := by decide +kernel
theorem dX6_wanes_27 : decode cX6_wanes 27 = .ok (.invokevirtual 61, 3) := by decide +kernel
theorem dX6_wanes_30 : decode cX6_wanes 30 = .ok (.ifCond .le 7, 3) := by decide +kernel
theorem dX6_wanes_33 : decode cX6_wanes 33 = .ok (.iconst 1, 1) := by decide +kernel
theorem dX6_wanes_34 : decode cX6_wanes 34 = .ok (.goto 4, 3) := by decide +kernel
theorem dX6_wanes_37 : decode cX6_wanes 37 = .ok (.iconst 0, 1) := by decide +kernel
theorem dX6_wanes_38 : decode cX6_wanes 38 = .ok (.isub, 1) := by decide +kernel
theorem dX6_wanes_39 : decode cX6_wanes 39 = .ok (.istore_n 3, 1) := by decide +kernel
theorem dX6_wanes_40 : decode cX6_wanes 40 = .ok (.iload_n 3, 1) := by decide +kernel
theorem dX6_wanes_41 : decode cX6_wanes 41 = .ok (.bipush 60, 2) := by decide +kernel
theorem dX6_wanes_43 : decode cX6_wanes 43 = .ok (.if_icmp .le 8, 3) := by decide +kernel
theorem dX6_wanes_46 : decode cX6_wanes 46 = .ok (.bipush 60, 2) := by decide +kernel
theorem dX6_wanes_48 : decode cX6_wanes 48 = .ok (.goto 4, 3) := by decide +kernel
theorem dX6_wanes_51 : decode cX6_wanes 51 = .ok (.iload_n 3, 1) := by decide +kernel
theorem dX6_wanes_52 : decode cX6_wanes 52 = .ok (.istore_n 3, 1) := by decide +kernel
theorem dX6_wanes_53 : decode cX6_wanes 53 = .ok (.iload_n 3, 1) := by decide +kernel
theorem dX6_wanes_54 : decode cX6_wanes 54 = .ok (.ifCond .gt 13, 3) := by decide +kernel
theorem dX6_wanes_57 : decode cX6_wanes 57 = .ok (.aload_n 0, 1) := by decide +kernel
theorem dX6_wanes_58 : decode cX6_wanes 58 = .ok (.iload_n 1, 1) := by decide +kernel
theorem dX6_wanes_59 : decode cX6_wanes 59 = .ok (.bipush (-9), 2) := by decide +kernel
theorem dX6_wanes_61 : decode cX6_wanes 61 = .ok (.invokevirtual 81, 3) := by decide +kernel
theorem dX6_wanes_64 : decode cX6_wanes 64 = .ok (.goto 10, 3) := by decide +kernel
theorem dX6_wanes_67 : decode cX6_wanes 67 = .ok (.aload_n 0, 1) := by decide +kernel
theorem dX6_wanes_68 : decode cX6_wanes 68 = .ok (.iload_n 1, 1) := by decide +kernel
theorem dX6_wanes_69 : decode cX6_wanes 69 = .ok (.iconst 4, 1) := by decide +kernel
theorem dX6_wanes_70 : decode cX6_wanes 70 = .ok (.iload_n 3, 1) := by decide +kernel
theorem dX6_wanes_71 : decode cX6_wanes 71 = .ok (.invokevirtual 64, 3) := by decide +kernel
theorem dX6_wanes_74 : decode cX6_wanes 74 = .ok (.return_, 1) := by decide +kernel
theorem dX6_goes_0 : decode cX6_goes 0 = .ok (.iconst 0, 1) := by decide +kernel
theorem dX6_goes_1 : decode cX6_goes 1 = .ok (.istore_n 1, 1) := by decide +kernel
theorem dX6_goes_2 : decode cX6_goes 2 = .ok (.iconst 0, 1) := by decide +kernel
theorem dX6_goes_3 : decode cX6_goes 3 = .ok (.istore_n 2, 1) := by decide +kernel
theorem dX6_goes_4 : decode cX6_goes 4 = .ok (.iconst 0, 1) := by decide +kernel
theorem dX6_goes_5 : decode cX6_goes 5 = .ok (.istore_n 3, 1) := by decide +kernel
theorem dX6_goes_6 : decode cX6_goes 6 = .ok (.iload_n 3, 1) := by decide +kernel
theorem dX6_goes_7 : decode cX6_goes 7 = .ok (.aload_n 0, 1) := by decide +kernel
theorem dX6_goes_8 : decode cX6_goes 8 = .ok (.getfield 13, 3) := by decide +kernel
theorem dX6_goes_11 : decode cX6_goes 11 = .ok (.iconst 3, 1) := by decide +kernel
theorem dX6_goes_12 : decode cX6_goes 12 = .ok (.iaload, 1) := by decide +kernel
theorem dX6_goes_13 : decode cX6_goes 13 = .ok (.if_icmp .ge 27, 3) := by decide +kernel
theorem dX6_goes_16 : decode cX6_goes 16 = .ok (.iload_n 1, 1) := by decide +kernel
theorem dX6_goes_17 : decode cX6_goes 17 = .ok (.aload_n 0, 1) := by decide +kernel
theorem dX6_goes_18 : decode cX6_goes 18 = .ok (.iload_n 3, 1) := by decide +kernel
theorem dX6_goes_19 : decode cX6_goes 19 = .ok (.invokevirtual 85, 3) := by decide +kernel
theorem dX6_goes_22 : decode cX6_goes 22 = .ok (.ifCond .eq 9, 3) := by decide +kernel
theorem dX6_goes_25 : decode cX6_goes 25 = .ok (.iconst 1, 1) := by decide +kernel
theorem dX6_goes_26 : decode cX6_goes 26 = .ok (.iload_n 3, 1) := by decide +kernel
theorem dX6_goes_27 : decode cX6_goes 27 = .ok (.ishl, 1) := by decide +kernel
theorem dX6_goes_28 : decode cX6_goes 28 = .ok (.goto 4, 3) := by decide +kernel
theorem dX6_goes_31 : decode cX6_goes 31 = .ok (.iconst 0, 1) := by decide +kernel
theorem dX6_goes_32 : decode cX6_goes 32 = .ok (.ior, 1) := by decide +kernel
theorem dX6_goes_33 : decode cX6_goes 33 = .ok (.istore_n 1, 1) := by decide +kernel
theorem dX6_goes_34 : decode cX6_goes 34 = .ok (.iinc 3 1, 3) := by decide +kernel
theorem dX6_goes_37 : decode cX6_goes 37 = .ok (.goto (-31), 3) := by decide +kernel
theorem dX6_goes_40 : decode cX6_goes 40 = .ok (.iconst 0, 1) := by decide +kernel
theorem dX6_goes_41 : decode cX6_goes 41 = .ok (.istore_n 3, 1) := by decide +kernel
theorem dX6_goes_42 : decode cX6_goes 42 = .ok (.iload_n 3, 1) := by decide +kernel
theorem dX6_goes_43 : decode cX6_goes 43 = .ok (.aload_n 0, 1) := by decide +kernel
theorem dX6_goes_44 : decode cX6_goes 44 = .ok (.getfield 13, 3) := by decide +kernel
theorem dX6_goes_47 : decode cX6_goes 47 = .ok (.iconst 3, 1) := by decide +kernel
theorem dX6_goes_48 : decode cX6_goes 48 = .ok (.iaload, 1) := by decide +kernel
theorem dX6_goes_49 : decode cX6_goes 49 = .ok (.if_icmp .ge 27, 3) := by decide +kernel
theorem dX6_goes_52 : decode cX6_goes 52 = .ok (.aload_n 0, 1) := by decide +kernel
theorem dX6_goes_53 : decode cX6_goes 53 = .ok (.iload_n 3, 1) := by decide +kernel
theorem dX6_goes_54 : decode cX6_goes 54 = .ok (.iload_n 1, 1) := by decide +kernel
theorem dX6_goes_55 : decode cX6_goes 55 = .ok (.invokevirtual 89, 3) := by decide +kernel
theorem dX6_goes_58 : decode cX6_goes 58 = .ok (.aload_n 0, 1) := by decide +kernel
theorem dX6_goes_59 : decode cX6_goes 59 = .ok (.getfield 37, 3) := by decide +kernel
theorem dX6_goes_62 : decode cX6_goes 62 = .ok (.iload_n 3, 1) := by decide +kernel
theorem dX6_goes_63 : decode cX6_goes 63 = .ok (.aload_n 0, 1) := by decide +kernel
theorem dX6_goes_64 : decode cX6_goes 64 = .ok (.getfield 34, 3) := by decide +kernel
theorem dX6_goes_67 : decode cX6_goes 67 = .ok (.iload_n 3, 1) := by decide +kernel
theorem dX6_goes_68 : decode cX6_goes 68 = .ok (.iaload, 1) := by decide +kernel
theorem dX6_goes_69 : decode cX6_goes 69 = .ok (.iastore, 1) := by decide +kernel
theorem dX6_goes_70 : decode cX6_goes 70 = .ok (.iinc 3 1, 3) := by decide +kernel
theorem dX6_goes_73 : decode cX6_goes 73 = .ok (.goto (-31), 3) := by decide +kernel
theorem dX6_goes_76 : decode cX6_goes 76 = .ok (.iconst 0, 1) := by decide +kernel
theorem dX6_goes_77 : decode cX6_goes 77 = .ok (.istore_n 3, 1) := by decide +kernel
theorem dX6_goes_78 : decode cX6_goes 78 = .ok (.iload_n 3, 1) := by decide +kernel
theorem dX6_goes_79 : decode cX6_goes 79 = .ok (.aload_n 0, 1) := by decide +kernel
theorem dX6_goes_80 : decode cX6_goes 80 = .ok (.getfield 13, 3) := by decide +kernel
theorem dX6_goes_83 : decode cX6_goes 83 = .ok (.iconst 3, 1) := by decide +kernel
theorem dX6_goes_84 : decode cX6_goes 84 = .ok (.iaload, 1) := by decide +kernel
theorem dX6_goes_85 : decode cX6_goes 85 = .ok (.if_icmp .ge 92, 3) := by decide +kernel
theorem dX6_goes_88 : decode cX6_goes 88 = .ok (.aload_n 0, 1) := by decide +kernel
theorem dX6_goes_89 : decode cX6_goes 89 = .ok (.getfield 25, 3) := by decide +kernel
theorem dX6_goes_92 : decode cX6_goes 92 = .ok (.iload_n 3, 1) := by decide +kernel
theorem dX6_goes_93 : decode cX6_goes 93 = .ok (.iaload, 1) := by decide +kernel
theorem dX6_goes_94 : decode cX6_goes 94 = .ok (.ifCond .lt 49, 3) := by decide +kernel
theorem dX6_goes_97 : decode cX6_goes 97 = .ok (.aload_n 0, 1) := by decide +kernel
theorem dX6_goes_98 : decode cX6_goes 98 = .ok (.iload_n 3, 1) := by decide +kernel
theorem dX6_goes_99 : decode cX6_goes 99 = .ok (.aload_n 0, 1) := by decide +kernel
theorem dX6_goes_100 : decode cX6_goes 100 = .ok (.getfield 25, 3) := by decide +kernel
theorem dX6_goes_103 : decode cX6_goes 103 = .ok (.iload_n 3, 1) := by decide +kernel
theorem dX6_goes_104 : decode cX6_goes 104 = .ok (.iaload, 1) := by decide +kernel
theorem dX6_goes_105 : decode cX6_goes 105 = .ok (.invokevirtual 81, 3) := by decide +kernel
theorem dX6_goes_108 : decode cX6_goes 108 = .ok (.aload_n 0, 1) := by decide +kernel
theorem dX6_goes_109 : decode cX6_goes 109 = .ok (.getfield 31, 3) := by decide +kernel
theorem dX6_goes_112 : decode cX6_goes 112 = .ok (.iload_n 3, 1) := by decide +kernel
theorem dX6_goes_113 : decode cX6_goes 113 = .ok (.aload_n 0, 1) := by decide +kernel
theorem dX6_goes_114 : decode cX6_goes 114 = .ok (.getfield 28, 3) := by decide +kernel
theorem dX6_goes_117 : decode cX6_goes 117 = .ok (.iload_n 3, 1) := by decide +kernel
theorem dX6_goes_118 : decode cX6_goes 118 = .ok (.iaload, 1) := by decide +kernel
theorem dX6_goes_119 : decode cX6_goes 119 = .ok (.iastore, 1) := by decide +kernel
theorem dX6_goes_120 : decode cX6_goes 120 = .ok (.aload_n 0, 1) := by decide +kernel
theorem dX6_goes_121 : decode cX6_goes 121 = .ok (.getfield 34, 3) := by decide +kernel
theorem dX6_goes_124 : decode cX6_goes 124 = .ok (.iload_n 3, 1) := by decide +kernel
theorem dX6_goes_125 : decode cX6_goes 125 = .ok (.aload_n 0, 1) := by decide +kernel
theorem dX6_goes_126 : decode cX6_goes 126 = .ok (.getfield 37, 3) := by decide +kernel
theorem dX6_goes_129 : decode cX6_goes 129 = .ok (.aload_n 0, 1) := by decide +kernel
theorem dX6_goes_130 : decode cX6_goes 130 = .ok (.getfield 28, 3) := by decide +kernel
theorem dX6_goes_133 : decode cX6_goes 133 = .ok (.iload_n 3, 1) := by decide +kernel
theorem dX6_goes_134 : decode cX6_goes 134 = .ok (.iaload, 1) := by decide +kernel
theorem dX6_goes_135 : decode cX6_goes 135 = .ok (.iaload, 1) := by decide +kernel
theorem dX6_goes_136 : decode cX6_goes 136 = .ok (.iastore, 1) := by decide +kernel
theorem dX6_goes_137 : decode cX6_goes 137 = .ok (.iinc 2 1, 3) := by decide +kernel
theorem dX6_goes_140 : decode cX6_goes 140 = .ok (.goto 8, 3) := by decide +kernel
theorem dX6_goes_143 : decode cX6_goes 143 = .ok (.aload_n 0, 1) := by decide +kernel
theorem dX6_goes_144 : decode cX6_goes 144 = .ok (.iload_n 3, 1) := by decide +kernel
theorem dX6_goes_145 : decode cX6_goes 145 = .ok (.invokevirtual 92, 3) := by decide +kernel
theorem dX6_goes_148 : decode cX6_goes 148 = .ok (.aload_n 0, 1) := by decide +kernel
theorem dX6_goes_149 : decode cX6_goes 149 = .ok (.iload_n 3, 1) := by decide +kernel
theorem dX6_goes_150 : decode cX6_goes 150 = .ok (.iconst 5, 1) := by decide +kernel
theorem dX6_goes_151 : decode cX6_goes 151 = .ok (.invokevirtual 61, 3) := by decide +kernel
theorem dX6_goes_154 : decode cX6_goes 154 = .ok (.ifCond .le 17, 3) := by decide +kernel
theorem dX6_goes_157 : decode cX6_goes 157 = .ok (.aload_n 0, 1) := by decide +kernel
theorem dX6_goes_158 : decode cX6_goes 158 = .ok (.iload_n 3, 1) := by decide +kernel
theorem dX6_goes_159 : decode cX6_goes 159 = .ok (.iconst 5, 1) := by decide +kernel
theorem dX6_goes_160 : decode cX6_goes 160 = .ok (.aload_n 0, 1) := by decide +kernel
theorem dX6_goes_161 : decode cX6_goes 161 = .ok (.iload_n 3, 1) := by decide +kernel
theorem dX6_goes_162 : decode cX6_goes 162 = .ok (.iconst 5, 1) := by decide +kernel
theorem dX6_goes_163 : decode cX6_goes 163 = .ok (.invokevirtual 61, 3) := by decide +kernel
theorem dX6_goes_166 : decode cX6_goes 166 = .ok (.iconst 1, 1) := by decide +kernel
theorem dX6_goes_167 : decode cX6_goes 167 = .ok (.isub, 1) := by decide +kernel
theorem dX6_goes_168 : decode cX6_goes 168 = .ok (.invokevirtual 64, 3) := by decide +kernel
theorem dX6_goes_171 : decode cX6_goes 171 = .ok (.iinc 3 1, 3) := by decide +kernel
theorem dX6_goes_174 : decode cX6_goes 174 = .ok (.goto (-96), 3) := by decide +kernel
theorem dX6_goes_177 : decode cX6_goes 177 = .ok (.aload_n 0, 1) := by decide +kernel
theorem dX6_goes_178 : decode cX6_goes 178 = .ok (.getfield 13, 3) := by decide +kernel
theorem dX6_goes_181 : decode cX6_goes 181 = .ok (.iconst 4, 1) := by decide +kernel
theorem dX6_goes_182 : decode cX6_goes 182 = .ok (.dup2, 1) := by decide +kernel
theorem dX6_goes_183 : decode cX6_goes 183 = .ok (.iaload, 1) := by decide +kernel
theorem dX6_goes_184 : decode cX6_goes 184 = .ok (.iconst 1, 1) := by decide +kernel
theorem dX6_goes_185 : decode cX6_goes 185 = .ok (.iadd, 1) := by decide +kernel
theorem dX6_goes_186 : decode cX6_goes 186 = .ok (.iastore, 1) := by decide +kernel
theorem dX6_goes_187 : decode cX6_goes 187 = .ok (.iload_n 2, 1) := by decide +kernel
theorem dX6_goes_188 : decode cX6_goes 188 = .ok (.ireturn, 1) := by decide +kernel
theorem dX6_starts_0 : decode cX6_starts 0 = .ok (.aload_n 0, 1) := by decide +kernel
theorem dX6_starts_1 : decode cX6_starts 1 = .ok (.invokevirtual 96, 3) := by decide +kernel
theorem dX6_starts_4 : decode cX6_starts 4 = .ok (.iconst 0, 1) := by decide +kernel
theorem dX6_starts_5 : decode cX6_starts 5 = .ok (.istore_n 1, 1) := by decide +kernel
theorem dX6_starts_6 : decode cX6_starts 6 = .ok (.iload_n 1, 1) := by decide +kernel
theorem dX6_starts_7 : decode cX6_starts 7 = .ok (.bipush 6, 2) := by decide +kernel
theorem dX6_starts_9 : decode cX6_starts 9 = .ok (.if_icmp .ge 23, 3) := by decide +kernel
theorem dX6_starts_12 : decode cX6_starts 12 = .ok (.aload_n 0, 1) := by decide +kernel
theorem dX6_starts_13 : decode cX6_starts 13 = .ok (.getfield 31, 3) := by decide +kernel
theorem dX6_starts_16 : decode cX6_starts 16 = .ok (.iload_n 1, 1) := by decide +kernel
theorem dX6_starts_17 : decode cX6_starts 17 = .ok (.iload_n 1, 1) := by decide +kernel
theorem dX6_starts_18 : decode cX6_starts 18 = .ok (.iastore, 1) := by decide +kernel
theorem dX6_starts_19 : decode cX6_starts 19 = .ok (.aload_n 0, 1) := by decide +kernel
theorem dX6_starts_20 : decode cX6_starts 20 = .ok (.getfield 34, 3) := by decide +kernel
theorem dX6_starts_23 : decode cX6_starts 23 = .ok (.iload_n 1, 1) := by decide +kernel
theorem dX6_starts_24 : decode cX6_starts 24 = .ok (.iload_n 1, 1) := by decide +kernel
theorem dX6_starts_25 : decode cX6_starts 25 = .ok (.iastore, 1) := by decide +kernel
theorem dX6_starts_26 : decode cX6_starts 26 = .ok (.iinc 1 1, 3) := by decide +kernel
theorem dX6_starts_29 : decode cX6_starts 29 = .ok (.goto (-23), 3) := by decide +kernel
theorem dX6_starts_32 : decode cX6_starts 32 = .ok (.return_, 1) := by decide +kernel
theorem dX6_goesFor_0 : decode cX6_goesFor 0 = .ok (.iconst 0, 1) := by decide +kernel
theorem dX6_goesFor_1 : decode cX6_goesFor 1 = .ok (.istore_n 2, 1) := by decide +kernel
theorem dX6_goesFor_2 : decode cX6_goesFor 2 = .ok (.iload_n 2, 1) := by decide +kernel
theorem dX6_goesFor_3 : decode cX6_goesFor 3 = .ok (.iload_n 1, 1) := by decide +kernel
theorem dX6_goesFor_4 : decode cX6_goesFor 4 = .ok (.if_icmp .ge 14, 3) := by decide +kernel
theorem dX6_goesFor_7 : decode cX6_goesFor 7 = .ok (.aload_n 0, 1) := by decide +kernel
theorem dX6_goesFor_8 : decode cX6_goesFor 8 = .ok (.invokevirtual 99, 3) := by decide +kernel
theorem dX6_goesFor_11 : decode cX6_goesFor 11 = .ok (.pop, 1) := by decide +kernel
theorem dX6_goesFor_12 : decode cX6_goesFor 12 = .ok (.iinc 2 1, 3) := by decide +kernel
theorem dX6_goesFor_15 : decode cX6_goesFor 15 = .ok (.goto (-13), 3) := by decide +kernel
theorem dX6_goesFor_18 : decode cX6_goesFor 18 = .ok (.return_, 1) := by decide +kernel
theorem dX6_haveIt_0 : decode cX6_haveIt 0 = .ok (.iconst 0, 1) := by decide +kernel
theorem dX6_haveIt_1 : decode cX6_haveIt 1 = .ok (.istore_n 2, 1) := by decide +kernel
theorem dX6_haveIt_2 : decode cX6_haveIt 2 = .ok (.iconst 0, 1) := by decide +kernel
theorem dX6_haveIt_3 : decode cX6_haveIt 3 = .ok (.istore_n 3, 1) := by decide +kernel
theorem dX6_haveIt_4 : decode cX6_haveIt 4 = .ok (.iload_n 3, 1) := by decide +kernel
theorem dX6_haveIt_5 : decode cX6_haveIt 5 = .ok (.aload_n 0, 1) := by decide +kernel
theorem dX6_haveIt_6 : decode cX6_haveIt 6 = .ok (.getfield 13, 3) := by decide +kernel
theorem dX6_haveIt_9 : decode cX6_haveIt 9 = .ok (.iconst 3, 1) := by decide +kernel
theorem dX6_haveIt_10 : decode cX6_haveIt 10 = .ok (.iaload, 1) := by decide +kernel
theorem dX6_haveIt_11 : decode cX6_haveIt 11 = .ok (.if_icmp .ge 48, 3) := by decide +kernel
theorem dX6_haveIt_14 : decode cX6_haveIt 14 = .ok (.iload_n 2, 1) := by decide +kernel
theorem dX6_haveIt_15 : decode cX6_haveIt 15 = .ok (.iload_n 1, 1) := by decide +kernel
theorem dX6_haveIt_16 : decode cX6_haveIt 16 = .ok (.ifCond .ge 20, 3) := by decide +kernel
theorem dX6_haveIt_19 : decode cX6_haveIt 19 = .ok (.aload_n 0, 1) := by decide +kernel
theorem dX6_haveIt_20 : decode cX6_haveIt 20 = .ok (.iload_n 3, 1) := by decide +kernel
theorem dX6_haveIt_21 : decode cX6_haveIt 21 = .ok (.iconst 3, 1) := by decide +kernel
theorem dX6_haveIt_22 : decode cX6_haveIt 22 = .ok (.invokevirtual 61, 3) := by decide +kernel
theorem dX6_haveIt_25 : decode cX6_haveIt 25 = .ok (.ifCond .lt 7, 3) := by decide +kernel
theorem dX6_haveIt_28 : decode cX6_haveIt 28 = .ok (.iconst 1, 1) := by decide +kernel
theorem dX6_haveIt_29 : decode cX6_haveIt 29 = .ok (.goto 22, 3) := by decide +kernel
theorem dX6_haveIt_32 : decode cX6_haveIt 32 = .ok (.iconst 0, 1) := by decide +kernel
theorem dX6_haveIt_33 : decode cX6_haveIt 33 = .ok (.goto 18, 3) := by decide +kernel
theorem dX6_haveIt_36 : decode cX6_haveIt 36 = .ok (.aload_n 0, 1) := by decide +kernel
theorem dX6_haveIt_37 : decode cX6_haveIt 37 = .ok (.iload_n 3, 1) := by decide +kernel
theorem dX6_haveIt_38 : decode cX6_haveIt 38 = .ok (.iconst 3, 1) := by decide +kernel
theorem dX6_haveIt_39 : decode cX6_haveIt 39 = .ok (.invokevirtual 61, 3) := by decide +kernel
theorem dX6_haveIt_42 : decode cX6_haveIt 42 = .ok (.iload_n 1, 1) := by decide +kernel
theorem dX6_haveIt_43 : decode cX6_haveIt 43 = .ok (.if_icmp .ne 7, 3) := by decide +kernel
theorem dX6_haveIt_46 : decode cX6_haveIt 46 = .ok (.iconst 1, 1) := by decide +kernel
theorem dX6_haveIt_47 : decode cX6_haveIt 47 = .ok (.goto 4, 3) := by decide +kernel
theorem dX6_haveIt_50 : decode cX6_haveIt 50 = .ok (.iconst 0, 1) := by decide +kernel
theorem dX6_haveIt_51 : decode cX6_haveIt 51 = .ok (.iadd, 1) := by decide +kernel
theorem dX6_haveIt_52 : decode cX6_haveIt 52 = .ok (.istore_n 2, 1) := by decide +kernel
theorem dX6_haveIt_53 : decode cX6_haveIt 53 = .ok (.iinc 3 1, 3) := by decide +kernel
theorem dX6_haveIt_56 : decode cX6_haveIt 56 = .ok (.goto (-52), 3) := by decide +kernel
theorem dX6_haveIt_59 : decode cX6_haveIt 59 = .ok (.iload_n 2, 1) := by decide +kernel
theorem dX6_haveIt_60 : decode cX6_haveIt 60 = .ok (.ireturn, 1) := by decide +kernel
theorem dX6_haveBehind_0 : decode cX6_haveBehind 0 = .ok (.aload_n 0, 1) := by decide +kernel
theorem dX6_haveBehind_1 : decode cX6_haveBehind 1 = .ok (.iload_n 2, 1) := by decide +kernel
theorem dX6_haveBehind_2 : decode cX6_haveBehind 2 = .ok (.invokevirtual 103, 3) := by decide +kernel
theorem dX6_haveBehind_5 : decode cX6_haveBehind 5 = .ok (.aload_n 0, 1) := by decide +kernel
theorem dX6_haveBehind_6 : decode cX6_haveBehind 6 = .ok (.iload_n 1, 1) := by decide +kernel
theorem dX6_haveBehind_7 : decode cX6_haveBehind 7 = .ok (.invokevirtual 106, 3) := by decide +kernel
theorem dX6_haveBehind_10 : decode cX6_haveBehind 10 = .ok (.istore_n 3, 1) := by decide +kernel
theorem dX6_haveBehind_11 : decode cX6_haveBehind 11 = .ok (.aload_n 0, 1) := by decide +kernel
theorem dX6_haveBehind_12 : decode cX6_haveBehind 12 = .ok (.invokevirtual 109, 3) := by decide +kernel
theorem dX6_haveBehind_15 : decode cX6_haveBehind 15 = .ok (.iload_n 3, 1) := by decide +kernel
theorem dX6_haveBehind_16 : decode cX6_haveBehind 16 = .ok (.ireturn, 1) := by decide +kernel
theorem dX6_letter_0 : decode cX6_letter 0 = .ok (.iload_n 1, 1) := by decide +kernel
theorem dX6_letter_1 : decode cX6_letter 1 = .ok (.iconst 0, 1) := by decide +kernel
theorem dX6_letter_2 : decode cX6_letter 2 = .ok (.sipush 255, 3) := by decide +kernel
theorem dX6_letter_5 : decode cX6_letter 5 = .ok (.invokestatic 112, 3) := by decide +kernel
theorem dX6_letter_8 : decode cX6_letter 8 = .ok (.istore_n 2, 1) := by decide +kernel
theorem dX6_letter_9 : decode cX6_letter 9 = .ok (.iload_n 2, 1) := by decide +kernel
theorem dX6_letter_10 : decode cX6_letter 10 = .ok (.ifCond .ne 15, 3) := by decide +kernel
theorem dX6_letter_13 : decode cX6_letter 13 = .ok (.aload_n 0, 1) := by decide +kernel
theorem dX6_letter_14 : decode cX6_letter 14 = .ok (.getfield 116, 3) := by decide +kernel
theorem dX6_letter_17 : decode cX6_letter 17 = .ok (.bipush 96, 2) := by decide +kernel
theorem dX6_letter_19 : decode cX6_letter 19 = .ok (.if_icmp .ne 6, 3) := by decide +kernel
theorem dX6_letter_22 : decode cX6_letter 22 = .ok (.bipush (-6), 2) := by decide +kernel
theorem dX6_letter_24 : decode cX6_letter 24 = .ok (.istore_n 2, 1) := by decide +kernel
theorem dX6_letter_25 : decode cX6_letter 25 = .ok (.iload_n 2, 1) := by decide +kernel
theorem dX6_letter_26 : decode cX6_letter 26 = .ok (.ifCond .eq 9, 3) := by decide +kernel
theorem dX6_letter_29 : decode cX6_letter 29 = .ok (.aload_n 0, 1) := by decide +kernel
theorem dX6_letter_30 : decode cX6_letter 30 = .ok (.iload_n 2, 1) := by decide +kernel
theorem dX6_letter_31 : decode cX6_letter 31 = .ok (.invokevirtual 120, 3) := by decide +kernel
theorem dX6_letter_34 : decode cX6_letter 34 = .ok (.ireturn, 1) := by decide +kernel
theorem dX6_letter_35 : decode cX6_letter 35 = .ok (.aload_n 0, 1) := by decide +kernel
theorem dX6_letter_36 : decode cX6_letter 36 = .ok (.getfield 40, 3) := by decide +kernel
theorem dX6_letter_39 : decode cX6_letter 39 = .ok (.aload_n 0, 1) := by decide +kernel
theorem dX6_letter_40 : decode cX6_letter 40 = .ok (.getfield 116, 3) := by decide +kernel
theorem dX6_letter_43 : decode cX6_letter 43 = .ok (.iload_n 1, 1) := by decide +kernel
theorem dX6_letter_44 : decode cX6_letter 44 = .ok (.iastore, 1) := by decide +kernel
theorem dX6_letter_45 : decode cX6_letter 45 = .ok (.aload_n 0, 1) := by decide +kernel
theorem dX6_letter_46 : decode cX6_letter 46 = .ok (.dup, 1) := by decide +kernel
theorem dX6_letter_47 : decode cX6_letter 47 = .ok (.getfield 116, 3) := by decide +kernel
theorem dX6_letter_50 : decode cX6_letter 50 = .ok (.iconst 1, 1) := by decide +kernel
theorem dX6_letter_51 : decode cX6_letter 51 = .ok (.iadd, 1) := by decide +kernel
theorem dX6_letter_52 : decode cX6_letter 52 = .ok (.putfield 116, 3) := by decide +kernel
theorem dX6_letter_55 : decode cX6_letter 55 = .ok (.aload_n 0, 1) := by decide +kernel
theorem dX6_letter_56 : decode cX6_letter 56 = .ok (.getfield 116, 3) := by decide +kernel
theorem dX6_letter_59 : decode cX6_letter 59 = .ok (.ireturn, 1) := by decide +kernel
theorem dX6_sign_0 : decode cX6_sign 0 = .ok (.aload_n 0, 1) := by decide +kernel
theorem dX6_sign_1 : decode cX6_sign 1 = .ok (.getfield 123, 3) := by decide +kernel
theorem dX6_sign_4 : decode cX6_sign 4 = .ok (.aload_n 0, 1) := by decide +kernel
theorem dX6_sign_5 : decode cX6_sign 5 = .ok (.getfield 116, 3) := by decide +kernel
theorem dX6_sign_8 : decode cX6_sign 8 = .ok (.if_icmp .ge 15, 3) := by decide +kernel
theorem dX6_sign_11 : decode cX6_sign 11 = .ok (.aload_n 0, 1) := by decide +kernel
theorem dX6_sign_12 : decode cX6_sign 12 = .ok (.getfield 40, 3) := by decide +kernel
theorem dX6_sign_15 : decode cX6_sign 15 = .ok (.aload_n 0, 1) := by decide +kernel
theorem dX6_sign_16 : decode cX6_sign 16 = .ok (.getfield 123, 3) := by decide +kernel
theorem dX6_sign_19 : decode cX6_sign 19 = .ok (.iaload, 1) := by decide +kernel
theorem dX6_sign_20 : decode cX6_sign 20 = .ok (.goto 4, 3) := by decide +kernel
theorem dX6_sign_23 : decode cX6_sign 23 = .ok (.iconst (-1), 1) := by decide +kernel
theorem dX6_sign_24 : decode cX6_sign 24 = .ok (.ireturn, 1) := by decide +kernel
theorem dX6_takes_0 : decode cX6_takes 0 = .ok (.aload_n 0, 1) := by decide +kernel
theorem dX6_takes_1 : decode cX6_takes 1 = .ok (.invokevirtual 126, 3) := by decide +kernel
theorem dX6_takes_4 : decode cX6_takes 4 = .ok (.iload_n 1, 1) := by decide +kernel
theorem dX6_takes_5 : decode cX6_takes 5 = .ok (.if_icmp .eq 5, 3) := by decide +kernel
theorem dX6_takes_8 : decode cX6_takes 8 = .ok (.iconst 0, 1) := by decide +kernel
theorem dX6_takes_9 : decode cX6_takes 9 = .ok (.ireturn, 1) := by decide +kernel
theorem dX6_takes_10 : decode cX6_takes 10 = .ok (.aload_n 0, 1) := by decide +kernel
theorem dX6_takes_11 : decode cX6_takes 11 = .ok (.dup, 1) := by decide +kernel
theorem dX6_takes_12 : decode cX6_takes 12 = .ok (.getfield 123, 3) := by decide +kernel
theorem dX6_takes_15 : decode cX6_takes 15 = .ok (.iconst 1, 1) := by decide +kernel
theorem dX6_takes_16 : decode cX6_takes 16 = .ok (.iadd, 1) := by decide +kernel
theorem dX6_takes_17 : decode cX6_takes 17 = .ok (.putfield 123, 3) := by decide +kernel
theorem dX6_takes_20 : decode cX6_takes 20 = .ok (.iconst 1, 1) := by decide +kernel
theorem dX6_takes_21 : decode cX6_takes 21 = .ok (.ireturn, 1) := by decide +kernel
theorem dX6_readsNumber_0 : decode cX6_readsNumber 0 = .ok (.aload_n 0, 1) := by decide +kernel
theorem dX6_readsNumber_1 : decode cX6_readsNumber 1 = .ok (.getfield 43, 3) := by decide +kernel
theorem dX6_readsNumber_4 : decode cX6_readsNumber 4 = .ok (.iload_n 1, 1) := by decide +kernel
theorem dX6_readsNumber_5 : decode cX6_readsNumber 5 = .ok (.iconst 0, 1) := by decide +kernel
theorem dX6_readsNumber_6 : decode cX6_readsNumber 6 = .ok (.iastore, 1) := by decide +kernel
theorem dX6_readsNumber_7 : decode cX6_readsNumber 7 = .ok (.iconst 0, 1) := by decide +kernel
theorem dX6_readsNumber_8 : decode cX6_readsNumber 8 = .ok (.istore_n 3, 1) := by decide +kernel
theorem dX6_readsNumber_9 : decode cX6_readsNumber 9 = .ok (.iload_n 3, 1) := by decide +kernel
theorem dX6_readsNumber_10 : decode cX6_readsNumber 10 = .ok (.iload_n 2, 1) := by decide +kernel
theorem dX6_readsNumber_11 : decode cX6_readsNumber 11 = .ok (.if_icmp .ge 57, 3) := by decide +kernel
theorem dX6_readsNumber_14 : decode cX6_readsNumber 14 = .ok (.aload_n 0, 1) := by decide +kernel
theorem dX6_readsNumber_15 : decode cX6_readsNumber 15 = .ok (.invokevirtual 126, 3) := by decide +kernel
theorem dX6_readsNumber_18 : decode cX6_readsNumber 18 = .ok (.bipush 48, 2) := by decide +kernel
theorem dX6_readsNumber_20 : decode cX6_readsNumber 20 = .ok (.isub, 1) := by decide +kernel
theorem dX6_readsNumber_21 : decode cX6_readsNumber 21 = .ok (.bipush 10, 2) := by decide +kernel
theorem dX6_readsNumber_23 : decode cX6_readsNumber 23 = .ok (.invokestatic 53, 3) := by decide +kernel
theorem dX6_readsNumber_26 : decode cX6_readsNumber 26 = .ok (.ifCond .eq 42, 3) := by decide +kernel
theorem dX6_readsNumber_29 : decode cX6_readsNumber 29 = .ok (.aload_n 0, 1) := by decide +kernel
theorem dX6_readsNumber_30 : decode cX6_readsNumber 30 = .ok (.getfield 43, 3) := by decide +kernel
theorem dX6_readsNumber_33 : decode cX6_readsNumber 33 = .ok (.iload_n 1, 1) := by decide +kernel
theorem dX6_readsNumber_34 : decode cX6_readsNumber 34 = .ok (.bipush 10, 2) := by decide +kernel
theorem dX6_readsNumber_36 : decode cX6_readsNumber 36 = .ok (.aload_n 0, 1) := by decide +kernel
theorem dX6_readsNumber_37 : decode cX6_readsNumber 37 = .ok (.getfield 43, 3) := by decide +kernel
theorem dX6_readsNumber_40 : decode cX6_readsNumber 40 = .ok (.iload_n 1, 1) := by decide +kernel
theorem dX6_readsNumber_41 : decode cX6_readsNumber 41 = .ok (.iaload, 1) := by decide +kernel
theorem dX6_readsNumber_42 : decode cX6_readsNumber 42 = .ok (.imul, 1) := by decide +kernel
theorem dX6_readsNumber_43 : decode cX6_readsNumber 43 = .ok (.aload_n 0, 1) := by decide +kernel
theorem dX6_readsNumber_44 : decode cX6_readsNumber 44 = .ok (.invokevirtual 126, 3) := by decide +kernel
theorem dX6_readsNumber_47 : decode cX6_readsNumber 47 = .ok (.iadd, 1) := by decide +kernel
theorem dX6_readsNumber_48 : decode cX6_readsNumber 48 = .ok (.bipush 48, 2) := by decide +kernel
theorem dX6_readsNumber_50 : decode cX6_readsNumber 50 = .ok (.isub, 1) := by decide +kernel
theorem dX6_readsNumber_51 : decode cX6_readsNumber 51 = .ok (.iastore, 1) := by decide +kernel
theorem dX6_readsNumber_52 : decode cX6_readsNumber 52 = .ok (.aload_n 0, 1) := by decide +kernel
theorem dX6_readsNumber_53 : decode cX6_readsNumber 53 = .ok (.dup, 1) := by decide +kernel
theorem dX6_readsNumber_54 : decode cX6_readsNumber 54 = .ok (.getfield 123, 3) := by decide +kernel
theorem dX6_readsNumber_57 : decode cX6_readsNumber 57 = .ok (.iconst 1, 1) := by decide +kernel
theorem dX6_readsNumber_58 : decode cX6_readsNumber 58 = .ok (.iadd, 1) := by decide +kernel
theorem dX6_readsNumber_59 : decode cX6_readsNumber 59 = .ok (.putfield 123, 3) := by decide +kernel
theorem dX6_readsNumber_62 : decode cX6_readsNumber 62 = .ok (.iinc 3 1, 3) := by decide +kernel
theorem dX6_readsNumber_65 : decode cX6_readsNumber 65 = .ok (.goto (-56), 3) := by decide +kernel
theorem dX6_readsNumber_68 : decode cX6_readsNumber 68 = .ok (.iload_n 3, 1) := by decide +kernel
theorem dX6_readsNumber_69 : decode cX6_readsNumber 69 = .ok (.ifCond .le 7, 3) := by decide +kernel
theorem dX6_readsNumber_72 : decode cX6_readsNumber 72 = .ok (.iconst 1, 1) := by decide +kernel
theorem dX6_readsNumber_73 : decode cX6_readsNumber 73 = .ok (.goto 4, 3) := by decide +kernel
theorem dX6_readsNumber_76 : decode cX6_readsNumber 76 = .ok (.iconst 0, 1) := by decide +kernel
theorem dX6_readsNumber_77 : decode cX6_readsNumber 77 = .ok (.ireturn, 1) := by decide +kernel
theorem dX6_songOf_0 : decode cX6_songOf 0 = .ok (.iload_n 0, 1) := by decide +kernel
theorem dX6_songOf_1 : decode cX6_songOf 1 = .ok (.bipush 115, 2) := by decide +kernel
theorem dX6_songOf_3 : decode cX6_songOf 3 = .ok (.if_icmp .ne 7, 3) := by decide +kernel
theorem dX6_songOf_6 : decode cX6_songOf 6 = .ok (.iconst 0, 1) := by decide +kernel
theorem dX6_songOf_7 : decode cX6_songOf 7 = .ok (.goto 55, 3) := by decide +kernel
theorem dX6_songOf_10 : decode cX6_songOf 10 = .ok (.iload_n 0, 1) := by decide +kernel
theorem dX6_songOf_11 : decode cX6_songOf 11 = .ok (.bipush 108, 2) := by decide +kernel
theorem dX6_songOf_13 : decode cX6_songOf 13 = .ok (.if_icmp .ne 7, 3) := by decide +kernel
theorem dX6_songOf_16 : decode cX6_songOf 16 = .ok (.iconst 1, 1) := by decide +kernel
theorem dX6_songOf_17 : decode cX6_songOf 17 = .ok (.goto 45, 3) := by decide +kernel
theorem dX6_songOf_20 : decode cX6_songOf 20 = .ok (.iload_n 0, 1) := by decide +kernel
theorem dX6_songOf_21 : decode cX6_songOf 21 = .ok (.bipush 113, 2) := by decide +kernel
theorem dX6_songOf_23 : decode cX6_songOf 23 = .ok (.if_icmp .ne 7, 3) := by decide +kernel
theorem dX6_songOf_26 : decode cX6_songOf 26 = .ok (.iconst 2, 1) := by decide +kernel
theorem dX6_songOf_27 : decode cX6_songOf 27 = .ok (.goto 35, 3) := by decide +kernel
theorem dX6_songOf_30 : decode cX6_songOf 30 = .ok (.iload_n 0, 1) := by decide +kernel
theorem dX6_songOf_31 : decode cX6_songOf 31 = .ok (.bipush 99, 2) := by decide +kernel
theorem dX6_songOf_33 : decode cX6_songOf 33 = .ok (.if_icmp .ne 7, 3) := by decide +kernel
theorem dX6_songOf_36 : decode cX6_songOf 36 = .ok (.iconst 3, 1) := by decide +kernel
theorem dX6_songOf_37 : decode cX6_songOf 37 = .ok (.goto 25, 3) := by decide +kernel
theorem dX6_songOf_40 : decode cX6_songOf 40 = .ok (.iload_n 0, 1) := by decide +kernel
theorem dX6_songOf_41 : decode cX6_songOf 41 = .ok (.bipush 106, 2) := by decide +kernel
theorem dX6_songOf_43 : decode cX6_songOf 43 = .ok (.if_icmp .ne 7, 3) := by decide +kernel
theorem dX6_songOf_46 : decode cX6_songOf 46 = .ok (.iconst 4, 1) := by decide +kernel
theorem dX6_songOf_47 : decode cX6_songOf 47 = .ok (.goto 15, 3) := by decide +kernel
theorem dX6_songOf_50 : decode cX6_songOf 50 = .ok (.iload_n 0, 1) := by decide +kernel
theorem dX6_songOf_51 : decode cX6_songOf 51 = .ok (.bipush 104, 2) := by decide +kernel
theorem dX6_songOf_53 : decode cX6_songOf 53 = .ok (.if_icmp .ne 7, 3) := by decide +kernel
theorem dX6_songOf_56 : decode cX6_songOf 56 = .ok (.iconst 5, 1) := by decide +kernel
theorem dX6_songOf_57 : decode cX6_songOf 57 = .ok (.goto 5, 3) := by decide +kernel
theorem dX6_songOf_60 : decode cX6_songOf 60 = .ok (.bipush (-9), 2) := by decide +kernel
theorem dX6_songOf_62 : decode cX6_songOf 62 = .ok (.ireturn, 1) := by decide +kernel
theorem dX6_headOf_0 : decode cX6_headOf 0 = .ok (.iload_n 0, 1) := by decide +kernel
theorem dX6_headOf_1 : decode cX6_headOf 1 = .ok (.bipush 104, 2) := by decide +kernel
theorem dX6_headOf_3 : decode cX6_headOf 3 = .ok (.if_icmp .ne 7, 3) := by decide +kernel
theorem dX6_headOf_6 : decode cX6_headOf 6 = .ok (.iconst 0, 1) := by decide +kernel
theorem dX6_headOf_7 : decode cX6_headOf 7 = .ok (.goto 55, 3) := by decide +kernel
theorem dX6_headOf_10 : decode cX6_headOf 10 = .ok (.iload_n 0, 1) := by decide +kernel
theorem dX6_headOf_11 : decode cX6_headOf 11 = .ok (.bipush 119, 2) := by decide +kernel
theorem dX6_headOf_13 : decode cX6_headOf 13 = .ok (.if_icmp .ne 7, 3) := by decide +kernel
theorem dX6_headOf_16 : decode cX6_headOf 16 = .ok (.iconst 1, 1) := by decide +kernel
theorem dX6_headOf_17 : decode cX6_headOf 17 = .ok (.goto 45, 3) := by decide +kernel
theorem dX6_headOf_20 : decode cX6_headOf 20 = .ok (.iload_n 0, 1) := by decide +kernel
theorem dX6_headOf_21 : decode cX6_headOf 21 = .ok (.bipush 100, 2) := by decide +kernel
theorem dX6_headOf_23 : decode cX6_headOf 23 = .ok (.if_icmp .ne 7, 3) := by decide +kernel
theorem dX6_headOf_26 : decode cX6_headOf 26 = .ok (.iconst 2, 1) := by decide +kernel
theorem dX6_headOf_27 : decode cX6_headOf 27 = .ok (.goto 35, 3) := by decide +kernel
theorem dX6_headOf_30 : decode cX6_headOf 30 = .ok (.iload_n 0, 1) := by decide +kernel
theorem dX6_headOf_31 : decode cX6_headOf 31 = .ok (.bipush 116, 2) := by decide +kernel
theorem dX6_headOf_33 : decode cX6_headOf 33 = .ok (.if_icmp .ne 7, 3) := by decide +kernel
theorem dX6_headOf_36 : decode cX6_headOf 36 = .ok (.iconst 3, 1) := by decide +kernel
theorem dX6_headOf_37 : decode cX6_headOf 37 = .ok (.goto 25, 3) := by decide +kernel
theorem dX6_headOf_40 : decode cX6_headOf 40 = .ok (.iload_n 0, 1) := by decide +kernel
theorem dX6_headOf_41 : decode cX6_headOf 41 = .ok (.bipush 98, 2) := by decide +kernel
theorem dX6_headOf_43 : decode cX6_headOf 43 = .ok (.if_icmp .ne 7, 3) := by decide +kernel
theorem dX6_headOf_46 : decode cX6_headOf 46 = .ok (.iconst 4, 1) := by decide +kernel
theorem dX6_headOf_47 : decode cX6_headOf 47 = .ok (.goto 15, 3) := by decide +kernel
theorem dX6_headOf_50 : decode cX6_headOf 50 = .ok (.iload_n 0, 1) := by decide +kernel
theorem dX6_headOf_51 : decode cX6_headOf 51 = .ok (.bipush 121, 2) := by decide +kernel
theorem dX6_headOf_53 : decode cX6_headOf 53 = .ok (.if_icmp .ne 7, 3) := by decide +kernel
theorem dX6_headOf_56 : decode cX6_headOf 56 = .ok (.iconst 5, 1) := by decide +kernel
theorem dX6_headOf_57 : decode cX6_headOf 57 = .ok (.goto 5, 3) := by decide +kernel
theorem dX6_headOf_60 : decode cX6_headOf 60 = .ok (.bipush (-9), 2) := by decide +kernel
theorem dX6_headOf_62 : decode cX6_headOf 62 = .ok (.ireturn, 1) := by decide +kernel
theorem dX6_readsKind_0 : decode cX6_readsKind 0 = .ok (.aload_n 0, 1) := by decide +kernel
theorem dX6_readsKind_1 : decode cX6_readsKind 1 = .ok (.getfield 43, 3) := by decide +kernel
theorem dX6_readsKind_4 : decode cX6_readsKind 4 = .ok (.iconst 0, 1) := by decide +kernel
theorem dX6_readsKind_5 : decode cX6_readsKind 5 = .ok (.iload_n 1, 1) := by decide +kernel
theorem dX6_readsKind_6 : decode cX6_readsKind 6 = .ok (.iastore, 1) := by decide +kernel
theorem dX6_readsKind_7 : decode cX6_readsKind 7 = .ok (.iload_n 1, 1) := by decide +kernel
theorem dX6_readsKind_8 : decode cX6_readsKind 8 = .ok (.ifCond .ge 5, 3) := by decide +kernel
theorem dX6_readsKind_11 : decode cX6_readsKind 11 = .ok (.iconst 0, 1) := by decide +kernel
theorem dX6_readsKind_12 : decode cX6_readsKind 12 = .ok (.ireturn, 1) := by decide +kernel
theorem dX6_readsKind_13 : decode cX6_readsKind 13 = .ok (.aload_n 0, 1) := by decide +kernel
theorem dX6_readsKind_14 : decode cX6_readsKind 14 = .ok (.dup, 1) := by decide +kernel
theorem dX6_readsKind_15 : decode cX6_readsKind 15 = .ok (.getfield 123, 3) := by decide +kernel
theorem dX6_readsKind_18 : decode cX6_readsKind 18 = .ok (.iconst 1, 1) := by decide +kernel
theorem dX6_readsKind_19 : decode cX6_readsKind 19 = .ok (.iadd, 1) := by decide +kernel
theorem dX6_readsKind_20 : decode cX6_readsKind 20 = .ok (.putfield 123, 3) := by decide +kernel
theorem dX6_readsKind_23 : decode cX6_readsKind 23 = .ok (.aload_n 0, 1) := by decide +kernel
theorem dX6_readsKind_24 : decode cX6_readsKind 24 = .ok (.iconst 1, 1) := by decide +kernel
theorem dX6_readsKind_25 : decode cX6_readsKind 25 = .ok (.iconst 1, 1) := by decide +kernel
theorem dX6_readsKind_26 : decode cX6_readsKind 26 = .ok (.invokevirtual 129, 3) := by decide +kernel
theorem dX6_readsKind_29 : decode cX6_readsKind 29 = .ok (.ifCond .eq 16, 3) := by decide +kernel
theorem dX6_readsKind_32 : decode cX6_readsKind 32 = .ok (.aload_n 0, 1) := by decide +kernel
theorem dX6_readsKind_33 : decode cX6_readsKind 33 = .ok (.iconst 2, 1) := by decide +kernel
theorem dX6_readsKind_34 : decode cX6_readsKind 34 = .ok (.iconst 1, 1) := by decide +kernel
theorem dX6_readsKind_35 : decode cX6_readsKind 35 = .ok (.invokevirtual 129, 3) := by decide +kernel
theorem dX6_readsKind_38 : decode cX6_readsKind 38 = .ok (.ifCond .eq 7, 3) := by decide +kernel
theorem dX6_readsKind_41 : decode cX6_readsKind 41 = .ok (.iconst 1, 1) := by decide +kernel
theorem dX6_readsKind_42 : decode cX6_readsKind 42 = .ok (.goto 4, 3) := by decide +kernel
theorem dX6_readsKind_45 : decode cX6_readsKind 45 = .ok (.iconst 0, 1) := by decide +kernel
theorem dX6_readsKind_46 : decode cX6_readsKind 46 = .ok (.ireturn, 1) := by decide +kernel
theorem dX6_readsStatement_0 : decode cX6_readsStatement 0 = .ok (.aload_n 0, 1) := by decide +kernel
theorem dX6_readsStatement_1 : decode cX6_readsStatement 1 = .ok (.invokevirtual 126, 3) := by decide +kernel
theorem dX6_readsStatement_4 : decode cX6_readsStatement 4 = .ok (.istore_n 1, 1) := by decide +kernel
theorem dX6_readsStatement_5 : decode cX6_readsStatement 5 = .ok (.iconst 0, 1) := by decide +kernel
theorem dX6_readsStatement_6 : decode cX6_readsStatement 6 = .ok (.istore_n 2, 1) := by decide +kernel
theorem dX6_readsStatement_7 : decode cX6_readsStatement 7 = .ok (.aload_n 0, 1) := by decide +kernel
theorem dX6_readsStatement_8 : decode cX6_readsStatement 8 = .ok (.dup, 1) := by decide +kernel
theorem dX6_readsStatement_9 : decode cX6_readsStatement 9 = .ok (.getfield 123, 3) := by decide +kernel
theorem dX6_readsStatement_12 : decode cX6_readsStatement 12 = .ok (.iconst 1, 1) := by decide +kernel
theorem dX6_readsStatement_13 : decode cX6_readsStatement 13 = .ok (.iadd, 1) := by decide +kernel
theorem dX6_readsStatement_14 : decode cX6_readsStatement 14 = .ok (.putfield 123, 3) := by decide +kernel
theorem dX6_readsStatement_17 : decode cX6_readsStatement 17 = .ok (.iload_n 1, 1) := by decide +kernel
theorem dX6_readsStatement_18 : decode cX6_readsStatement 18 = .ok (.lookupswitch 117 #[(100, 50), (103, 50), (104, 92), (111, 107), (115, 77)], 50) := by decide +kernel
theorem dX6_readsStatement_68 : decode cX6_readsStatement 68 = .ok (.aload_n 0, 1) := by decide +kernel
theorem dX6_readsStatement_69 : decode cX6_readsStatement 69 = .ok (.iconst 0, 1) := by decide +kernel
theorem dX6_readsStatement_70 : decode cX6_readsStatement 70 = .ok (.iconst 1, 1) := by decide +kernel
theorem dX6_readsStatement_71 : decode cX6_readsStatement 71 = .ok (.invokevirtual 129, 3) := by decide +kernel
theorem dX6_readsStatement_74 : decode cX6_readsStatement 74 = .ok (.ifCond .eq 16, 3) := by decide +kernel
theorem dX6_readsStatement_77 : decode cX6_readsStatement 77 = .ok (.aload_n 0, 1) := by decide +kernel
theorem dX6_readsStatement_78 : decode cX6_readsStatement 78 = .ok (.iconst 1, 1) := by decide +kernel
theorem dX6_readsStatement_79 : decode cX6_readsStatement 79 = .ok (.iconst 1, 1) := by decide +kernel
theorem dX6_readsStatement_80 : decode cX6_readsStatement 80 = .ok (.invokevirtual 129, 3) := by decide +kernel
theorem dX6_readsStatement_83 : decode cX6_readsStatement 83 = .ok (.ifCond .eq 7, 3) := by decide +kernel
theorem dX6_readsStatement_86 : decode cX6_readsStatement 86 = .ok (.iconst 1, 1) := by decide +kernel
theorem dX6_readsStatement_87 : decode cX6_readsStatement 87 = .ok (.goto 4, 3) := by decide +kernel
theorem dX6_readsStatement_90 : decode cX6_readsStatement 90 = .ok (.iconst 0, 1) := by decide +kernel
theorem dX6_readsStatement_91 : decode cX6_readsStatement 91 = .ok (.istore_n 2, 1) := by decide +kernel
theorem dX6_readsStatement_92 : decode cX6_readsStatement 92 = .ok (.goto 55, 3) := by decide +kernel
theorem dX6_readsStatement_95 : decode cX6_readsStatement 95 = .ok (.aload_n 0, 1) := by decide +kernel
theorem dX6_readsStatement_96 : decode cX6_readsStatement 96 = .ok (.aload_n 0, 1) := by decide +kernel
theorem dX6_readsStatement_97 : decode cX6_readsStatement 97 = .ok (.invokevirtual 126, 3) := by decide +kernel
theorem dX6_readsStatement_100 : decode cX6_readsStatement 100 = .ok (.invokestatic 132, 3) := by decide +kernel
theorem dX6_readsStatement_103 : decode cX6_readsStatement 103 = .ok (.invokevirtual 135, 3) := by decide +kernel
theorem dX6_readsStatement_106 : decode cX6_readsStatement 106 = .ok (.istore_n 2, 1) := by decide +kernel
theorem dX6_readsStatement_107 : decode cX6_readsStatement 107 = .ok (.goto 40, 3) := by decide +kernel
theorem dX6_readsStatement_110 : decode cX6_readsStatement 110 = .ok (.aload_n 0, 1) := by decide +kernel
theorem dX6_readsStatement_111 : decode cX6_readsStatement 111 = .ok (.aload_n 0, 1) := by decide +kernel
theorem dX6_readsStatement_112 : decode cX6_readsStatement 112 = .ok (.invokevirtual 126, 3) := by decide +kernel
theorem dX6_readsStatement_115 : decode cX6_readsStatement 115 = .ok (.invokestatic 138, 3) := by decide +kernel
theorem dX6_readsStatement_118 : decode cX6_readsStatement 118 = .ok (.invokevirtual 135, 3) := by decide +kernel
theorem dX6_readsStatement_121 : decode cX6_readsStatement 121 = .ok (.istore_n 2, 1) := by decide +kernel
theorem dX6_readsStatement_122 : decode cX6_readsStatement 122 = .ok (.goto 25, 3) := by decide +kernel
theorem dX6_readsStatement_125 : decode cX6_readsStatement 125 = .ok (.aload_n 0, 1) := by decide +kernel
theorem dX6_readsStatement_126 : decode cX6_readsStatement 126 = .ok (.iconst 0, 1) := by decide +kernel
theorem dX6_readsStatement_127 : decode cX6_readsStatement 127 = .ok (.iconst 2, 1) := by decide +kernel
theorem dX6_readsStatement_128 : decode cX6_readsStatement 128 = .ok (.invokevirtual 129, 3) := by decide +kernel
theorem dX6_readsStatement_131 : decode cX6_readsStatement 131 = .ok (.istore_n 2, 1) := by decide +kernel
theorem dX6_readsStatement_132 : decode cX6_readsStatement 132 = .ok (.goto 15, 3) := by decide +kernel
theorem dX6_readsStatement_135 : decode cX6_readsStatement 135 = .ok (.aload_n 0, 1) := by decide +kernel
theorem dX6_readsStatement_136 : decode cX6_readsStatement 136 = .ok (.dup, 1) := by decide +kernel
theorem dX6_readsStatement_137 : decode cX6_readsStatement 137 = .ok (.getfield 123, 3) := by decide +kernel
theorem dX6_readsStatement_140 : decode cX6_readsStatement 140 = .ok (.iconst 1, 1) := by decide +kernel
theorem dX6_readsStatement_141 : decode cX6_readsStatement 141 = .ok (.isub, 1) := by decide +kernel
theorem dX6_readsStatement_142 : decode cX6_readsStatement 142 = .ok (.putfield 123, 3) := by decide +kernel
theorem dX6_readsStatement_145 : decode cX6_readsStatement 145 = .ok (.iconst 0, 1) := by decide +kernel
theorem dX6_readsStatement_146 : decode cX6_readsStatement 146 = .ok (.ireturn, 1) := by decide +kernel
theorem dX6_readsStatement_147 : decode cX6_readsStatement 147 = .ok (.iload_n 2, 1) := by decide +kernel
theorem dX6_readsStatement_148 : decode cX6_readsStatement 148 = .ok (.ifCond .eq 16, 3) := by decide +kernel
theorem dX6_readsStatement_151 : decode cX6_readsStatement 151 = .ok (.aload_n 0, 1) := by decide +kernel
theorem dX6_readsStatement_152 : decode cX6_readsStatement 152 = .ok (.bipush 59, 2) := by decide +kernel
theorem dX6_readsStatement_154 : decode cX6_readsStatement 154 = .ok (.invokevirtual 141, 3) := by decide +kernel
theorem dX6_readsStatement_157 : decode cX6_readsStatement 157 = .ok (.ifCond .eq 7, 3) := by decide +kernel
theorem dX6_readsStatement_160 : decode cX6_readsStatement 160 = .ok (.iconst 1, 1) := by decide +kernel
theorem dX6_readsStatement_161 : decode cX6_readsStatement 161 = .ok (.goto 4, 3) := by decide +kernel
theorem dX6_readsStatement_164 : decode cX6_readsStatement 164 = .ok (.iconst 0, 1) := by decide +kernel
theorem dX6_readsStatement_165 : decode cX6_readsStatement 165 = .ok (.ireturn, 1) := by decide +kernel
theorem dX6_comes_0 : decode cX6_comes 0 = .ok (.aload_n 0, 1) := by decide +kernel
theorem dX6_comes_1 : decode cX6_comes 1 = .ok (.getfield 43, 3) := by decide +kernel
theorem dX6_comes_4 : decode cX6_comes 4 = .ok (.iconst 0, 1) := by decide +kernel
theorem dX6_comes_5 : decode cX6_comes 5 = .ok (.iaload, 1) := by decide +kernel
theorem dX6_comes_6 : decode cX6_comes 6 = .ok (.istore_n 2, 1) := by decide +kernel
theorem dX6_comes_7 : decode cX6_comes 7 = .ok (.aload_n 0, 1) := by decide +kernel
theorem dX6_comes_8 : decode cX6_comes 8 = .ok (.getfield 43, 3) := by decide +kernel
theorem dX6_comes_11 : decode cX6_comes 11 = .ok (.iconst 1, 1) := by decide +kernel
theorem dX6_comes_12 : decode cX6_comes 12 = .ok (.iaload, 1) := by decide +kernel
theorem dX6_comes_13 : decode cX6_comes 13 = .ok (.istore_n 3, 1) := by decide +kernel
theorem dX6_comes_14 : decode cX6_comes 14 = .ok (.iload_n 1, 1) := by decide +kernel
theorem dX6_comes_15 : decode cX6_comes 15 = .ok (.lookupswitch 336 #[(100, 41), (103, 310), (104, 209), (115, 134)], 41) := by decide +kernel
theorem dX6_comes_56 : decode cX6_comes 56 = .ok (.iload_n 2, 1) := by decide +kernel
theorem dX6_comes_57 : decode cX6_comes 57 = .ok (.iconst 5, 1) := by decide +kernel
theorem dX6_comes_58 : decode cX6_comes 58 = .ok (.if_icmp .ge 24, 3) := by decide +kernel
theorem dX6_comes_61 : decode cX6_comes 61 = .ok (.iload_n 3, 1) := by decide +kernel
theorem dX6_comes_62 : decode cX6_comes 62 = .ok (.iconst 5, 1) := by decide +kernel
theorem dX6_comes_63 : decode cX6_comes 63 = .ok (.if_icmp .ge 19, 3) := by decide +kernel
theorem dX6_comes_66 : decode cX6_comes 66 = .ok (.iload_n 2, 1) := by decide +kernel
theorem dX6_comes_67 : decode cX6_comes 67 = .ok (.iload_n 3, 1) := by decide +kernel
theorem dX6_comes_68 : decode cX6_comes 68 = .ok (.if_icmp .eq 14, 3) := by decide +kernel
theorem dX6_comes_71 : decode cX6_comes 71 = .ok (.aload_n 0, 1) := by decide +kernel
theorem dX6_comes_72 : decode cX6_comes 72 = .ok (.getfield 13, 3) := by decide +kernel
theorem dX6_comes_75 : decode cX6_comes 75 = .ok (.iconst 0, 1) := by decide +kernel
theorem dX6_comes_76 : decode cX6_comes 76 = .ok (.iaload, 1) := by decide +kernel
theorem dX6_comes_77 : decode cX6_comes 77 = .ok (.bipush 8, 2) := by decide +kernel
theorem dX6_comes_79 : decode cX6_comes 79 = .ok (.if_icmp .ne 5, 3) := by decide +kernel
theorem dX6_comes_82 : decode cX6_comes 82 = .ok (.iconst 0, 1) := by decide +kernel
theorem dX6_comes_83 : decode cX6_comes 83 = .ok (.ireturn, 1) := by decide +kernel
theorem dX6_comes_84 : decode cX6_comes 84 = .ok (.aload_n 0, 1) := by decide +kernel
theorem dX6_comes_85 : decode cX6_comes 85 = .ok (.getfield 13, 3) := by decide +kernel
theorem dX6_comes_88 : decode cX6_comes 88 = .ok (.bipush 6, 2) := by decide +kernel
theorem dX6_comes_90 : decode cX6_comes 90 = .ok (.iconst 2, 1) := by decide +kernel
theorem dX6_comes_91 : decode cX6_comes 91 = .ok (.aload_n 0, 1) := by decide +kernel
theorem dX6_comes_92 : decode cX6_comes 92 = .ok (.getfield 13, 3) := by decide +kernel
theorem dX6_comes_95 : decode cX6_comes 95 = .ok (.iconst 0, 1) := by decide +kernel
theorem dX6_comes_96 : decode cX6_comes 96 = .ok (.iaload, 1) := by decide +kernel
theorem dX6_comes_97 : decode cX6_comes 97 = .ok (.imul, 1) := by decide +kernel
theorem dX6_comes_98 : decode cX6_comes 98 = .ok (.iadd, 1) := by decide +kernel
theorem dX6_comes_99 : decode cX6_comes 99 = .ok (.iload_n 2, 1) := by decide +kernel
theorem dX6_comes_100 : decode cX6_comes 100 = .ok (.iastore, 1) := by decide +kernel
theorem dX6_comes_101 : decode cX6_comes 101 = .ok (.aload_n 0, 1) := by decide +kernel
theorem dX6_comes_102 : decode cX6_comes 102 = .ok (.getfield 13, 3) := by decide +kernel
theorem dX6_comes_105 : decode cX6_comes 105 = .ok (.bipush 6, 2) := by decide +kernel
theorem dX6_comes_107 : decode cX6_comes 107 = .ok (.iconst 2, 1) := by decide +kernel
theorem dX6_comes_108 : decode cX6_comes 108 = .ok (.aload_n 0, 1) := by decide +kernel
theorem dX6_comes_109 : decode cX6_comes 109 = .ok (.getfield 13, 3) := by decide +kernel
theorem dX6_comes_112 : decode cX6_comes 112 = .ok (.iconst 0, 1) := by decide +kernel
theorem dX6_comes_113 : decode cX6_comes 113 = .ok (.iaload, 1) := by decide +kernel
theorem dX6_comes_114 : decode cX6_comes 114 = .ok (.imul, 1) := by decide +kernel
theorem dX6_comes_115 : decode cX6_comes 115 = .ok (.iadd, 1) := by decide +kernel
theorem dX6_comes_116 : decode cX6_comes 116 = .ok (.iconst 1, 1) := by decide +kernel
theorem dX6_comes_117 : decode cX6_comes 117 = .ok (.iadd, 1) := by decide +kernel
theorem dX6_comes_118 : decode cX6_comes 118 = .ok (.iload_n 3, 1) := by decide +kernel
theorem dX6_comes_119 : decode cX6_comes 119 = .ok (.iastore, 1) := by decide +kernel
theorem dX6_comes_120 : decode cX6_comes 120 = .ok (.aload_n 0, 1) := by decide +kernel
theorem dX6_comes_121 : decode cX6_comes 121 = .ok (.getfield 13, 3) := by decide +kernel
theorem dX6_comes_124 : decode cX6_comes 124 = .ok (.iconst 1, 1) := by decide +kernel
theorem dX6_comes_125 : decode cX6_comes 125 = .ok (.dup2, 1) := by decide +kernel
theorem dX6_comes_126 : decode cX6_comes 126 = .ok (.iaload, 1) := by decide +kernel
theorem dX6_comes_127 : decode cX6_comes 127 = .ok (.iconst 1, 1) := by decide +kernel
theorem dX6_comes_128 : decode cX6_comes 128 = .ok (.aload_n 0, 1) := by decide +kernel
theorem dX6_comes_129 : decode cX6_comes 129 = .ok (.getfield 13, 3) := by decide +kernel
theorem dX6_comes_132 : decode cX6_comes 132 = .ok (.iconst 0, 1) := by decide +kernel
theorem dX6_comes_133 : decode cX6_comes 133 = .ok (.iaload, 1) := by decide +kernel
theorem dX6_comes_134 : decode cX6_comes 134 = .ok (.ishl, 1) := by decide +kernel
theorem dX6_comes_135 : decode cX6_comes 135 = .ok (.ior, 1) := by decide +kernel
theorem dX6_comes_136 : decode cX6_comes 136 = .ok (.iastore, 1) := by decide +kernel
theorem dX6_comes_137 : decode cX6_comes 137 = .ok (.aload_n 0, 1) := by decide +kernel
theorem dX6_comes_138 : decode cX6_comes 138 = .ok (.getfield 13, 3) := by decide +kernel
theorem dX6_comes_141 : decode cX6_comes 141 = .ok (.iconst 0, 1) := by decide +kernel
theorem dX6_comes_142 : decode cX6_comes 142 = .ok (.dup2, 1) := by decide +kernel
theorem dX6_comes_143 : decode cX6_comes 143 = .ok (.iaload, 1) := by decide +kernel
theorem dX6_comes_144 : decode cX6_comes 144 = .ok (.iconst 1, 1) := by decide +kernel
theorem dX6_comes_145 : decode cX6_comes 145 = .ok (.iadd, 1) := by decide +kernel
theorem dX6_comes_146 : decode cX6_comes 146 = .ok (.iastore, 1) := by decide +kernel
theorem dX6_comes_147 : decode cX6_comes 147 = .ok (.iconst 1, 1) := by decide +kernel
theorem dX6_comes_148 : decode cX6_comes 148 = .ok (.ireturn, 1) := by decide +kernel
theorem dX6_comes_149 : decode cX6_comes 149 = .ok (.aload_n 0, 1) := by decide +kernel
theorem dX6_comes_150 : decode cX6_comes 150 = .ok (.getfield 43, 3) := by decide +kernel
theorem dX6_comes_153 : decode cX6_comes 153 = .ok (.iconst 2, 1) := by decide +kernel
theorem dX6_comes_154 : decode cX6_comes 154 = .ok (.iaload, 1) := by decide +kernel
theorem dX6_comes_155 : decode cX6_comes 155 = .ok (.iconst 1, 1) := by decide +kernel
theorem dX6_comes_156 : decode cX6_comes 156 = .ok (.if_icmp .lt 13, 3) := by decide +kernel
theorem dX6_comes_159 : decode cX6_comes 159 = .ok (.aload_n 0, 1) := by decide +kernel
theorem dX6_comes_160 : decode cX6_comes 160 = .ok (.getfield 13, 3) := by decide +kernel
theorem dX6_comes_163 : decode cX6_comes 163 = .ok (.iconst 2, 1) := by decide +kernel
theorem dX6_comes_164 : decode cX6_comes 164 = .ok (.iaload, 1) := by decide +kernel
theorem dX6_comes_165 : decode cX6_comes 165 = .ok (.iconst 5, 1) := by decide +kernel
theorem dX6_comes_166 : decode cX6_comes 166 = .ok (.if_icmp .ne 5, 3) := by decide +kernel
theorem dX6_comes_169 : decode cX6_comes 169 = .ok (.iconst 0, 1) := by decide +kernel
theorem dX6_comes_170 : decode cX6_comes 170 = .ok (.ireturn, 1) := by decide +kernel
theorem dX6_comes_171 : decode cX6_comes 171 = .ok (.iconst 0, 1) := by decide +kernel
theorem dX6_comes_172 : decode cX6_comes 172 = .ok (.istore 4, 2) := by decide +kernel
theorem dX6_comes_174 : decode cX6_comes 174 = .ok (.iload 4, 2) := by decide +kernel
theorem dX6_comes_176 : decode cX6_comes 176 = .ok (.iconst 3, 1) := by decide +kernel
theorem dX6_comes_177 : decode cX6_comes 177 = .ok (.if_icmp .ge 35, 3) := by decide +kernel
theorem dX6_comes_180 : decode cX6_comes 180 = .ok (.aload_n 0, 1) := by decide +kernel
theorem dX6_comes_181 : decode cX6_comes 181 = .ok (.getfield 13, 3) := by decide +kernel
theorem dX6_comes_184 : decode cX6_comes 184 = .ok (.bipush 22, 2) := by decide +kernel
theorem dX6_comes_186 : decode cX6_comes 186 = .ok (.iconst 3, 1) := by decide +kernel
theorem dX6_comes_187 : decode cX6_comes 187 = .ok (.aload_n 0, 1) := by decide +kernel
theorem dX6_comes_188 : decode cX6_comes 188 = .ok (.getfield 13, 3) := by decide +kernel
theorem dX6_comes_191 : decode cX6_comes 191 = .ok (.iconst 2, 1) := by decide +kernel
theorem dX6_comes_192 : decode cX6_comes 192 = .ok (.iaload, 1) := by decide +kernel
theorem dX6_comes_193 : decode cX6_comes 193 = .ok (.imul, 1) := by decide +kernel
theorem dX6_comes_194 : decode cX6_comes 194 = .ok (.iadd, 1) := by decide +kernel
theorem dX6_comes_195 : decode cX6_comes 195 = .ok (.iload 4, 2) := by decide +kernel
theorem dX6_comes_197 : decode cX6_comes 197 = .ok (.iadd, 1) := by decide +kernel
theorem dX6_comes_198 : decode cX6_comes 198 = .ok (.aload_n 0, 1) := by decide +kernel
theorem dX6_comes_199 : decode cX6_comes 199 = .ok (.getfield 43, 3) := by decide +kernel
theorem dX6_comes_202 : decode cX6_comes 202 = .ok (.iload 4, 2) := by decide +kernel
theorem dX6_comes_204 : decode cX6_comes 204 = .ok (.iaload, 1) := by decide +kernel
theorem dX6_comes_205 : decode cX6_comes 205 = .ok (.iastore, 1) := by decide +kernel
theorem dX6_comes_206 : decode cX6_comes 206 = .ok (.iinc 4 1, 3) := by decide +kernel
theorem dX6_comes_209 : decode cX6_comes 209 = .ok (.goto (-35), 3) := by decide +kernel
theorem dX6_comes_212 : decode cX6_comes 212 = .ok (.aload_n 0, 1) := by decide +kernel
theorem dX6_comes_213 : decode cX6_comes 213 = .ok (.getfield 13, 3) := by decide +kernel
theorem dX6_comes_216 : decode cX6_comes 216 = .ok (.iconst 2, 1) := by decide +kernel
theorem dX6_comes_217 : decode cX6_comes 217 = .ok (.dup2, 1) := by decide +kernel
theorem dX6_comes_218 : decode cX6_comes 218 = .ok (.iaload, 1) := by decide +kernel
theorem dX6_comes_219 : decode cX6_comes 219 = .ok (.iconst 1, 1) := by decide +kernel
theorem dX6_comes_220 : decode cX6_comes 220 = .ok (.iadd, 1) := by decide +kernel
theorem dX6_comes_221 : decode cX6_comes 221 = .ok (.iastore, 1) := by decide +kernel
theorem dX6_comes_222 : decode cX6_comes 222 = .ok (.iconst 1, 1) := by decide +kernel
theorem dX6_comes_223 : decode cX6_comes 223 = .ok (.ireturn, 1) := by decide +kernel
theorem dX6_comes_224 : decode cX6_comes 224 = .ok (.iload_n 3, 1) := by decide +kernel
theorem dX6_comes_225 : decode cX6_comes 225 = .ok (.iconst 5, 1) := by decide +kernel
theorem dX6_comes_226 : decode cX6_comes 226 = .ok (.if_icmp .ge 14, 3) := by decide +kernel
theorem dX6_comes_229 : decode cX6_comes 229 = .ok (.aload_n 0, 1) := by decide +kernel
theorem dX6_comes_230 : decode cX6_comes 230 = .ok (.getfield 13, 3) := by decide +kernel
theorem dX6_comes_233 : decode cX6_comes 233 = .ok (.iconst 3, 1) := by decide +kernel
theorem dX6_comes_234 : decode cX6_comes 234 = .ok (.iaload, 1) := by decide +kernel
theorem dX6_comes_235 : decode cX6_comes 235 = .ok (.bipush 6, 2) := by decide +kernel
theorem dX6_comes_237 : decode cX6_comes 237 = .ok (.if_icmp .ne 5, 3) := by decide +kernel
theorem dX6_comes_240 : decode cX6_comes 240 = .ok (.iconst 0, 1) := by decide +kernel
theorem dX6_comes_241 : decode cX6_comes 241 = .ok (.ireturn, 1) := by decide +kernel
theorem dX6_comes_242 : decode cX6_comes 242 = .ok (.iconst 0, 1) := by decide +kernel
theorem dX6_comes_243 : decode cX6_comes 243 = .ok (.istore 4, 2) := by decide +kernel
theorem dX6_comes_245 : decode cX6_comes 245 = .ok (.iload 4, 2) := by decide +kernel
theorem dX6_comes_247 : decode cX6_comes 247 = .ok (.iconst 3, 1) := by decide +kernel
theorem dX6_comes_248 : decode cX6_comes 248 = .ok (.if_icmp .ge 28, 3) := by decide +kernel
theorem dX6_comes_251 : decode cX6_comes 251 = .ok (.aload_n 0, 1) := by decide +kernel
theorem dX6_comes_252 : decode cX6_comes 252 = .ok (.aload_n 0, 1) := by decide +kernel
theorem dX6_comes_253 : decode cX6_comes 253 = .ok (.getfield 13, 3) := by decide +kernel
theorem dX6_comes_256 : decode cX6_comes 256 = .ok (.iconst 3, 1) := by decide +kernel
theorem dX6_comes_257 : decode cX6_comes 257 = .ok (.iaload, 1) := by decide +kernel
theorem dX6_comes_258 : decode cX6_comes 258 = .ok (.iload 4, 2) := by decide +kernel
theorem dX6_comes_260 : decode cX6_comes 260 = .ok (.aload_n 0, 1) := by decide +kernel
theorem dX6_comes_261 : decode cX6_comes 261 = .ok (.getfield 43, 3) := by decide +kernel
theorem dX6_comes_264 : decode cX6_comes 264 = .ok (.iload 4, 2) := by decide +kernel
theorem dX6_comes_266 : decode cX6_comes 266 = .ok (.iaload, 1) := by decide +kernel
theorem dX6_comes_267 : decode cX6_comes 267 = .ok (.invokevirtual 64, 3) := by decide +kernel
theorem dX6_comes_270 : decode cX6_comes 270 = .ok (.iinc 4 1, 3) := by decide +kernel
theorem dX6_comes_273 : decode cX6_comes 273 = .ok (.goto (-28), 3) := by decide +kernel
theorem dX6_comes_276 : decode cX6_comes 276 = .ok (.aload_n 0, 1) := by decide +kernel
theorem dX6_comes_277 : decode cX6_comes 277 = .ok (.aload_n 0, 1) := by decide +kernel
theorem dX6_comes_278 : decode cX6_comes 278 = .ok (.getfield 13, 3) := by decide +kernel
theorem dX6_comes_281 : decode cX6_comes 281 = .ok (.iconst 3, 1) := by decide +kernel
theorem dX6_comes_282 : decode cX6_comes 282 = .ok (.iaload, 1) := by decide +kernel
theorem dX6_comes_283 : decode cX6_comes 283 = .ok (.iconst 3, 1) := by decide +kernel
theorem dX6_comes_284 : decode cX6_comes 284 = .ok (.bipush (-9), 2) := by decide +kernel
theorem dX6_comes_286 : decode cX6_comes 286 = .ok (.invokevirtual 64, 3) := by decide +kernel
theorem dX6_comes_289 : decode cX6_comes 289 = .ok (.aload_n 0, 1) := by decide +kernel
theorem dX6_comes_290 : decode cX6_comes 290 = .ok (.aload_n 0, 1) := by decide +kernel
theorem dX6_comes_291 : decode cX6_comes 291 = .ok (.getfield 13, 3) := by decide +kernel
theorem dX6_comes_294 : decode cX6_comes 294 = .ok (.iconst 3, 1) := by decide +kernel
theorem dX6_comes_295 : decode cX6_comes 295 = .ok (.iaload, 1) := by decide +kernel
theorem dX6_comes_296 : decode cX6_comes 296 = .ok (.iconst 4, 1) := by decide +kernel
theorem dX6_comes_297 : decode cX6_comes 297 = .ok (.iconst 0, 1) := by decide +kernel
theorem dX6_comes_298 : decode cX6_comes 298 = .ok (.invokevirtual 64, 3) := by decide +kernel
theorem dX6_comes_301 : decode cX6_comes 301 = .ok (.aload_n 0, 1) := by decide +kernel
theorem dX6_comes_302 : decode cX6_comes 302 = .ok (.aload_n 0, 1) := by decide +kernel
theorem dX6_comes_303 : decode cX6_comes 303 = .ok (.getfield 13, 3) := by decide +kernel
theorem dX6_comes_306 : decode cX6_comes 306 = .ok (.iconst 3, 1) := by decide +kernel
theorem dX6_comes_307 : decode cX6_comes 307 = .ok (.iaload, 1) := by decide +kernel
theorem dX6_comes_308 : decode cX6_comes 308 = .ok (.iconst 5, 1) := by decide +kernel
theorem dX6_comes_309 : decode cX6_comes 309 = .ok (.iconst 0, 1) := by decide +kernel
theorem dX6_comes_310 : decode cX6_comes 310 = .ok (.invokevirtual 64, 3) := by decide +kernel
theorem dX6_comes_313 : decode cX6_comes 313 = .ok (.aload_n 0, 1) := by decide +kernel
theorem dX6_comes_314 : decode cX6_comes 314 = .ok (.getfield 13, 3) := by decide +kernel
theorem dX6_comes_317 : decode cX6_comes 317 = .ok (.iconst 3, 1) := by decide +kernel
theorem dX6_comes_318 : decode cX6_comes 318 = .ok (.dup2, 1) := by decide +kernel
theorem dX6_comes_319 : decode cX6_comes 319 = .ok (.iaload, 1) := by decide +kernel
theorem dX6_comes_320 : decode cX6_comes 320 = .ok (.iconst 1, 1) := by decide +kernel
theorem dX6_comes_321 : decode cX6_comes 321 = .ok (.iadd, 1) := by decide +kernel
theorem dX6_comes_322 : decode cX6_comes 322 = .ok (.iastore, 1) := by decide +kernel
theorem dX6_comes_323 : decode cX6_comes 323 = .ok (.iconst 1, 1) := by decide +kernel
theorem dX6_comes_324 : decode cX6_comes 324 = .ok (.ireturn, 1) := by decide +kernel
theorem dX6_comes_325 : decode cX6_comes 325 = .ok (.aload_n 0, 1) := by decide +kernel
theorem dX6_comes_326 : decode cX6_comes 326 = .ok (.iload_n 2, 1) := by decide +kernel
theorem dX6_comes_327 : decode cX6_comes 327 = .ok (.invokevirtual 144, 3) := by decide +kernel
theorem dX6_comes_330 : decode cX6_comes 330 = .ok (.ifCond .eq 11, 3) := by decide +kernel
theorem dX6_comes_333 : decode cX6_comes 333 = .ok (.aload_n 0, 1) := by decide +kernel
theorem dX6_comes_334 : decode cX6_comes 334 = .ok (.iload_n 3, 1) := by decide +kernel
theorem dX6_comes_335 : decode cX6_comes 335 = .ok (.invokevirtual 147, 3) := by decide +kernel
theorem dX6_comes_338 : decode cX6_comes 338 = .ok (.ifCond .ne 5, 3) := by decide +kernel
theorem dX6_comes_341 : decode cX6_comes 341 = .ok (.iconst 0, 1) := by decide +kernel
theorem dX6_comes_342 : decode cX6_comes 342 = .ok (.ireturn, 1) := by decide +kernel
theorem dX6_comes_343 : decode cX6_comes 343 = .ok (.aload_n 0, 1) := by decide +kernel
theorem dX6_comes_344 : decode cX6_comes 344 = .ok (.iload_n 2, 1) := by decide +kernel
theorem dX6_comes_345 : decode cX6_comes 345 = .ok (.iload_n 3, 1) := by decide +kernel
theorem dX6_comes_346 : decode cX6_comes 346 = .ok (.invokevirtual 81, 3) := by decide +kernel
theorem dX6_comes_349 : decode cX6_comes 349 = .ok (.iconst 1, 1) := by decide +kernel
theorem dX6_comes_350 : decode cX6_comes 350 = .ok (.ireturn, 1) := by decide +kernel
theorem dX6_comes_351 : decode cX6_comes 351 = .ok (.iload_n 2, 1) := by decide +kernel
theorem dX6_comes_352 : decode cX6_comes 352 = .ok (.iconst 1, 1) := by decide +kernel
theorem dX6_comes_353 : decode cX6_comes 353 = .ok (.if_icmp .lt 9, 3) := by decide +kernel
theorem dX6_comes_356 : decode cX6_comes 356 = .ok (.iload_n 2, 1) := by decide +kernel
theorem dX6_comes_357 : decode cX6_comes 357 = .ok (.bipush 20, 2) := by decide +kernel
theorem dX6_comes_359 : decode cX6_comes 359 = .ok (.if_icmp .le 5, 3) := by decide +kernel
theorem dX6_comes_362 : decode cX6_comes 362 = .ok (.iconst 0, 1) := by decide +kernel
theorem dX6_comes_363 : decode cX6_comes 363 = .ok (.ireturn, 1) := by decide +kernel
theorem dX6_comes_364 : decode cX6_comes 364 = .ok (.aload_n 0, 1) := by decide +kernel
theorem dX6_comes_365 : decode cX6_comes 365 = .ok (.getfield 13, 3) := by decide +kernel
theorem dX6_comes_368 : decode cX6_comes 368 = .ok (.iconst 5, 1) := by decide +kernel
theorem dX6_comes_369 : decode cX6_comes 369 = .ok (.iload_n 2, 1) := by decide +kernel
theorem dX6_comes_370 : decode cX6_comes 370 = .ok (.iastore, 1) := by decide +kernel
theorem dX6_comes_371 : decode cX6_comes 371 = .ok (.iconst 1, 1) := by decide +kernel
theorem dX6_comes_372 : decode cX6_comes 372 = .ok (.ireturn, 1) := by decide +kernel
theorem dX6_reads_0 : decode cX6_reads 0 = .ok (.aload_n 0, 1) := by decide +kernel
theorem dX6_reads_1 : decode cX6_reads 1 = .ok (.iconst 0, 1) := by decide +kernel
theorem dX6_reads_2 : decode cX6_reads 2 = .ok (.putfield 123, 3) := by decide +kernel
theorem dX6_reads_5 : decode cX6_reads 5 = .ok (.iconst 0, 1) := by decide +kernel
theorem dX6_reads_6 : decode cX6_reads 6 = .ok (.istore_n 1, 1) := by decide +kernel
theorem dX6_reads_7 : decode cX6_reads 7 = .ok (.aload_n 0, 1) := by decide +kernel
theorem dX6_reads_8 : decode cX6_reads 8 = .ok (.invokevirtual 150, 3) := by decide +kernel
theorem dX6_reads_11 : decode cX6_reads 11 = .ok (.ifCond .ne 12, 3) := by decide +kernel
theorem dX6_reads_14 : decode cX6_reads 14 = .ok (.sipush (-1000), 3) := by decide +kernel
theorem dX6_reads_17 : decode cX6_reads 17 = .ok (.aload_n 0, 1) := by decide +kernel
theorem dX6_reads_18 : decode cX6_reads 18 = .ok (.getfield 123, 3) := by decide +kernel
theorem dX6_reads_21 : decode cX6_reads 21 = .ok (.isub, 1) := by decide +kernel
theorem dX6_reads_22 : decode cX6_reads 22 = .ok (.ireturn, 1) := by decide +kernel
theorem dX6_reads_23 : decode cX6_reads 23 = .ok (.iinc 1 1, 3) := by decide +kernel
theorem dX6_reads_26 : decode cX6_reads 26 = .ok (.aload_n 0, 1) := by decide +kernel
theorem dX6_reads_27 : decode cX6_reads 27 = .ok (.getfield 123, 3) := by decide +kernel
theorem dX6_reads_30 : decode cX6_reads 30 = .ok (.aload_n 0, 1) := by decide +kernel
theorem dX6_reads_31 : decode cX6_reads 31 = .ok (.getfield 116, 3) := by decide +kernel
theorem dX6_reads_34 : decode cX6_reads 34 = .ok (.if_icmp .lt (-27), 3) := by decide +kernel
theorem dX6_reads_37 : decode cX6_reads 37 = .ok (.aload_n 0, 1) := by decide +kernel
theorem dX6_reads_38 : decode cX6_reads 38 = .ok (.getfield 13, 3) := by decide +kernel
theorem dX6_reads_41 : decode cX6_reads 41 = .ok (.aload_n 0, 1) := by decide +kernel
theorem dX6_reads_42 : decode cX6_reads 42 = .ok (.getfield 19, 3) := by decide +kernel
theorem dX6_reads_45 : decode cX6_reads 45 = .ok (.invokestatic 49, 3) := by decide +kernel
theorem dX6_reads_48 : decode cX6_reads 48 = .ok (.aload_n 0, 1) := by decide +kernel
theorem dX6_reads_49 : decode cX6_reads 49 = .ok (.iconst 0, 1) := by decide +kernel
theorem dX6_reads_50 : decode cX6_reads 50 = .ok (.putfield 123, 3) := by decide +kernel
theorem dX6_reads_53 : decode cX6_reads 53 = .ok (.aload_n 0, 1) := by decide +kernel
theorem dX6_reads_54 : decode cX6_reads 54 = .ok (.getfield 123, 3) := by decide +kernel
theorem dX6_reads_57 : decode cX6_reads 57 = .ok (.aload_n 0, 1) := by decide +kernel
theorem dX6_reads_58 : decode cX6_reads 58 = .ok (.getfield 116, 3) := by decide +kernel
theorem dX6_reads_61 : decode cX6_reads 61 = .ok (.if_icmp .ge 47, 3) := by decide +kernel
theorem dX6_reads_64 : decode cX6_reads 64 = .ok (.aload_n 0, 1) := by decide +kernel
theorem dX6_reads_65 : decode cX6_reads 65 = .ok (.getfield 123, 3) := by decide +kernel
theorem dX6_reads_68 : decode cX6_reads 68 = .ok (.istore_n 2, 1) := by decide +kernel
theorem dX6_reads_69 : decode cX6_reads 69 = .ok (.aload_n 0, 1) := by decide +kernel
theorem dX6_reads_70 : decode cX6_reads 70 = .ok (.invokevirtual 126, 3) := by decide +kernel
theorem dX6_reads_73 : decode cX6_reads 73 = .ok (.istore_n 3, 1) := by decide +kernel
theorem dX6_reads_74 : decode cX6_reads 74 = .ok (.aload_n 0, 1) := by decide +kernel
theorem dX6_reads_75 : decode cX6_reads 75 = .ok (.invokevirtual 150, 3) := by decide +kernel
theorem dX6_reads_78 : decode cX6_reads 78 = .ok (.istore 4, 2) := by decide +kernel
theorem dX6_reads_80 : decode cX6_reads 80 = .ok (.aload_n 0, 1) := by decide +kernel
theorem dX6_reads_81 : decode cX6_reads 81 = .ok (.iload_n 3, 1) := by decide +kernel
theorem dX6_reads_82 : decode cX6_reads 82 = .ok (.invokevirtual 154, 3) := by decide +kernel
theorem dX6_reads_85 : decode cX6_reads 85 = .ok (.ifCond .ne 20, 3) := by decide +kernel
theorem dX6_reads_88 : decode cX6_reads 88 = .ok (.aload_n 0, 1) := by decide +kernel
theorem dX6_reads_89 : decode cX6_reads 89 = .ok (.getfield 19, 3) := by decide +kernel
theorem dX6_reads_92 : decode cX6_reads 92 = .ok (.aload_n 0, 1) := by decide +kernel
theorem dX6_reads_93 : decode cX6_reads 93 = .ok (.getfield 13, 3) := by decide +kernel
theorem dX6_reads_96 : decode cX6_reads 96 = .ok (.invokestatic 49, 3) := by decide +kernel
theorem dX6_reads_99 : decode cX6_reads 99 = .ok (.sipush (-2000), 3) := by decide +kernel
theorem dX6_reads_102 : decode cX6_reads 102 = .ok (.iload_n 2, 1) := by decide +kernel
theorem dX6_reads_103 : decode cX6_reads 103 = .ok (.isub, 1) := by decide +kernel
theorem dX6_reads_104 : decode cX6_reads 104 = .ok (.ireturn, 1) := by decide +kernel
theorem dX6_reads_105 : decode cX6_reads 105 = .ok (.goto (-52), 3) := by decide +kernel
theorem dX6_reads_108 : decode cX6_reads 108 = .ok (.iload_n 1, 1) := by decide +kernel
theorem dX6_reads_109 : decode cX6_reads 109 = .ok (.ireturn, 1) := by decide +kernel
theorem dX6_office_0 : decode cX6_office 0 = .ok (.aload_n 0, 1) := by decide +kernel
theorem dX6_office_1 : decode cX6_office 1 = .ok (.invokevirtual 157, 3) := by decide +kernel
theorem dX6_office_4 : decode cX6_office 4 = .ok (.istore_n 1, 1) := by decide +kernel
theorem dX6_office_5 : decode cX6_office 5 = .ok (.aload_n 0, 1) := by decide +kernel
theorem dX6_office_6 : decode cX6_office 6 = .ok (.iconst 0, 1) := by decide +kernel
theorem dX6_office_7 : decode cX6_office 7 = .ok (.putfield 116, 3) := by decide +kernel
theorem dX6_office_10 : decode cX6_office 10 = .ok (.iload_n 1, 1) := by decide +kernel
theorem dX6_office_11 : decode cX6_office 11 = .ok (.ireturn, 1) := by decide +kernel
theorem dX6_song_0 : decode cX6_song 0 = .ok (.aload_n 0, 1) := by decide +kernel
theorem dX6_song_1 : decode cX6_song 1 = .ok (.iload_n 1, 1) := by decide +kernel
theorem dX6_song_2 : decode cX6_song 2 = .ok (.invokevirtual 147, 3) := by decide +kernel
theorem dX6_song_5 : decode cX6_song 5 = .ok (.ifCond .ne 9, 3) := by decide +kernel
theorem dX6_song_8 : decode cX6_song 8 = .ok (.aload_n 0, 1) := by decide +kernel
theorem dX6_song_9 : decode cX6_song 9 = .ok (.iconst (-1), 1) := by decide +kernel
theorem dX6_song_10 : decode cX6_song 10 = .ok (.invokevirtual 120, 3) := by decide +kernel
theorem dX6_song_13 : decode cX6_song 13 = .ok (.ireturn, 1) := by decide +kernel
theorem dX6_song_14 : decode cX6_song 14 = .ok (.iload_n 2, 1) := by decide +kernel
theorem dX6_song_15 : decode cX6_song 15 = .ok (.iconst 3, 1) := by decide +kernel
theorem dX6_song_16 : decode cX6_song 16 = .ok (.invokestatic 53, 3) := by decide +kernel
theorem dX6_song_19 : decode cX6_song 19 = .ok (.ifCond .eq 12, 3) := by decide +kernel
theorem dX6_song_22 : decode cX6_song 22 = .ok (.aload_n 0, 1) := by decide +kernel
theorem dX6_song_23 : decode cX6_song 23 = .ok (.iload_n 1, 1) := by decide +kernel
theorem dX6_song_24 : decode cX6_song 24 = .ok (.iload_n 2, 1) := by decide +kernel
theorem dX6_song_25 : decode cX6_song 25 = .ok (.invokevirtual 57, 3) := by decide +kernel
theorem dX6_song_28 : decode cX6_song 28 = .ok (.goto 35, 3) := by decide +kernel
theorem dX6_song_31 : decode cX6_song 31 = .ok (.iload_n 2, 1) := by decide +kernel
theorem dX6_song_32 : decode cX6_song 32 = .ok (.iconst 3, 1) := by decide +kernel
theorem dX6_song_33 : decode cX6_song 33 = .ok (.if_icmp .ne 11, 3) := by decide +kernel
theorem dX6_song_36 : decode cX6_song 36 = .ok (.aload_n 0, 1) := by decide +kernel
theorem dX6_song_37 : decode cX6_song 37 = .ok (.iload_n 1, 1) := by decide +kernel
theorem dX6_song_38 : decode cX6_song 38 = .ok (.invokevirtual 68, 3) := by decide +kernel
theorem dX6_song_41 : decode cX6_song 41 = .ok (.goto 22, 3) := by decide +kernel
theorem dX6_song_44 : decode cX6_song 44 = .ok (.iload_n 2, 1) := by decide +kernel
theorem dX6_song_45 : decode cX6_song 45 = .ok (.iconst 4, 1) := by decide +kernel
theorem dX6_song_46 : decode cX6_song 46 = .ok (.if_icmp .ne 11, 3) := by decide +kernel
theorem dX6_song_49 : decode cX6_song 49 = .ok (.aload_n 0, 1) := by decide +kernel
theorem dX6_song_50 : decode cX6_song 50 = .ok (.iload_n 1, 1) := by decide +kernel
theorem dX6_song_51 : decode cX6_song 51 = .ok (.invokevirtual 106, 3) := by decide +kernel
theorem dX6_song_54 : decode cX6_song 54 = .ok (.goto 9, 3) := by decide +kernel
theorem dX6_song_57 : decode cX6_song 57 = .ok (.aload_n 0, 1) := by decide +kernel
theorem dX6_song_58 : decode cX6_song 58 = .ok (.bipush (-2), 2) := by decide +kernel
theorem dX6_song_60 : decode cX6_song 60 = .ok (.invokevirtual 120, 3) := by decide +kernel
theorem dX6_song_63 : decode cX6_song 63 = .ok (.ireturn, 1) := by decide +kernel
theorem dX6_head_0 : decode cX6_head 0 = .ok (.aload_n 0, 1) := by decide +kernel
theorem dX6_head_1 : decode cX6_head 1 = .ok (.iload_n 1, 1) := by decide +kernel
theorem dX6_head_2 : decode cX6_head 2 = .ok (.invokevirtual 144, 3) := by decide +kernel
theorem dX6_head_5 : decode cX6_head 5 = .ok (.ifCond .ne 9, 3) := by decide +kernel
theorem dX6_head_8 : decode cX6_head 8 = .ok (.aload_n 0, 1) := by decide +kernel
theorem dX6_head_9 : decode cX6_head 9 = .ok (.iconst (-1), 1) := by decide +kernel
theorem dX6_head_10 : decode cX6_head 10 = .ok (.invokevirtual 120, 3) := by decide +kernel
theorem dX6_head_13 : decode cX6_head 13 = .ok (.ireturn, 1) := by decide +kernel
theorem dX6_head_14 : decode cX6_head 14 = .ok (.iload_n 2, 1) := by decide +kernel
theorem dX6_head_15 : decode cX6_head 15 = .ok (.bipush 6, 2) := by decide +kernel
theorem dX6_head_17 : decode cX6_head 17 = .ok (.invokestatic 53, 3) := by decide +kernel
theorem dX6_head_20 : decode cX6_head 20 = .ok (.ifCond .eq 12, 3) := by decide +kernel
theorem dX6_head_23 : decode cX6_head 23 = .ok (.aload_n 0, 1) := by decide +kernel
theorem dX6_head_24 : decode cX6_head 24 = .ok (.iload_n 1, 1) := by decide +kernel
theorem dX6_head_25 : decode cX6_head 25 = .ok (.iload_n 2, 1) := by decide +kernel
theorem dX6_head_26 : decode cX6_head 26 = .ok (.invokevirtual 61, 3) := by decide +kernel
theorem dX6_head_29 : decode cX6_head 29 = .ok (.goto 45, 3) := by decide +kernel
theorem dX6_head_32 : decode cX6_head 32 = .ok (.iload_n 2, 1) := by decide +kernel
theorem dX6_head_33 : decode cX6_head 33 = .ok (.bipush 6, 2) := by decide +kernel
theorem dX6_head_35 : decode cX6_head 35 = .ok (.if_icmp .ne 11, 3) := by decide +kernel
theorem dX6_head_38 : decode cX6_head 38 = .ok (.aload_n 0, 1) := by decide +kernel
theorem dX6_head_39 : decode cX6_head 39 = .ok (.iload_n 1, 1) := by decide +kernel
theorem dX6_head_40 : decode cX6_head 40 = .ok (.invokevirtual 75, 3) := by decide +kernel
theorem dX6_head_43 : decode cX6_head 43 = .ok (.goto 31, 3) := by decide +kernel
theorem dX6_head_46 : decode cX6_head 46 = .ok (.iload_n 2, 1) := by decide +kernel
theorem dX6_head_47 : decode cX6_head 47 = .ok (.bipush 7, 2) := by decide +kernel
theorem dX6_head_49 : decode cX6_head 49 = .ok (.if_icmp .ne 19, 3) := by decide +kernel
theorem dX6_head_52 : decode cX6_head 52 = .ok (.aload_n 0, 1) := by decide +kernel
theorem dX6_head_53 : decode cX6_head 53 = .ok (.iload_n 1, 1) := by decide +kernel
theorem dX6_head_54 : decode cX6_head 54 = .ok (.invokevirtual 85, 3) := by decide +kernel
theorem dX6_head_57 : decode cX6_head 57 = .ok (.ifCond .eq 7, 3) := by decide +kernel
theorem dX6_head_60 : decode cX6_head 60 = .ok (.iconst 1, 1) := by decide +kernel
theorem dX6_head_61 : decode cX6_head 61 = .ok (.goto 13, 3) := by decide +kernel
theorem dX6_head_64 : decode cX6_head 64 = .ok (.iconst 0, 1) := by decide +kernel
theorem dX6_head_65 : decode cX6_head 65 = .ok (.goto 9, 3) := by decide +kernel
theorem dX6_head_68 : decode cX6_head 68 = .ok (.aload_n 0, 1) := by decide +kernel
theorem dX6_head_69 : decode cX6_head 69 = .ok (.bipush (-2), 2) := by decide +kernel
theorem dX6_head_71 : decode cX6_head 71 = .ok (.invokevirtual 120, 3) := by decide +kernel
theorem dX6_head_74 : decode cX6_head 74 = .ok (.ireturn, 1) := by decide +kernel
theorem dX6_near_0 : decode cX6_near 0 = .ok (.aload_n 0, 1) := by decide +kernel
theorem dX6_near_1 : decode cX6_near 1 = .ok (.iload_n 1, 1) := by decide +kernel
theorem dX6_near_2 : decode cX6_near 2 = .ok (.invokevirtual 144, 3) := by decide +kernel
theorem dX6_near_5 : decode cX6_near 5 = .ok (.ifCond .ne 9, 3) := by decide +kernel
theorem dX6_near_8 : decode cX6_near 8 = .ok (.aload_n 0, 1) := by decide +kernel
theorem dX6_near_9 : decode cX6_near 9 = .ok (.iconst (-1), 1) := by decide +kernel
theorem dX6_near_10 : decode cX6_near 10 = .ok (.invokevirtual 120, 3) := by decide +kernel
theorem dX6_near_13 : decode cX6_near 13 = .ok (.ireturn, 1) := by decide +kernel
theorem dX6_near_14 : decode cX6_near 14 = .ok (.iconst 0, 1) := by decide +kernel
theorem dX6_near_15 : decode cX6_near 15 = .ok (.istore_n 2, 1) := by decide +kernel
theorem dX6_near_16 : decode cX6_near 16 = .ok (.iconst 0, 1) := by decide +kernel
theorem dX6_near_17 : decode cX6_near 17 = .ok (.istore_n 3, 1) := by decide +kernel
theorem dX6_near_18 : decode cX6_near 18 = .ok (.iload_n 3, 1) := by decide +kernel
theorem dX6_near_19 : decode cX6_near 19 = .ok (.aload_n 0, 1) := by decide +kernel
theorem dX6_near_20 : decode cX6_near 20 = .ok (.getfield 13, 3) := by decide +kernel
theorem dX6_near_23 : decode cX6_near 23 = .ok (.iconst 3, 1) := by decide +kernel
theorem dX6_near_24 : decode cX6_near 24 = .ok (.iaload, 1) := by decide +kernel
theorem dX6_near_25 : decode cX6_near 25 = .ok (.if_icmp .ge 28, 3) := by decide +kernel
theorem dX6_near_28 : decode cX6_near 28 = .ok (.iload_n 2, 1) := by decide +kernel
theorem dX6_near_29 : decode cX6_near 29 = .ok (.aload_n 0, 1) := by decide +kernel
theorem dX6_near_30 : decode cX6_near 30 = .ok (.iload_n 1, 1) := by decide +kernel
theorem dX6_near_31 : decode cX6_near 31 = .ok (.iload_n 3, 1) := by decide +kernel
theorem dX6_near_32 : decode cX6_near 32 = .ok (.invokevirtual 72, 3) := by decide +kernel
theorem dX6_near_35 : decode cX6_near 35 = .ok (.ifCond .eq 9, 3) := by decide +kernel
theorem dX6_near_38 : decode cX6_near 38 = .ok (.iconst 1, 1) := by decide +kernel
theorem dX6_near_39 : decode cX6_near 39 = .ok (.iload_n 3, 1) := by decide +kernel
theorem dX6_near_40 : decode cX6_near 40 = .ok (.ishl, 1) := by decide +kernel
theorem dX6_near_41 : decode cX6_near 41 = .ok (.goto 4, 3) := by decide +kernel
theorem dX6_near_44 : decode cX6_near 44 = .ok (.iconst 0, 1) := by decide +kernel
theorem dX6_near_45 : decode cX6_near 45 = .ok (.ior, 1) := by decide +kernel
theorem dX6_near_46 : decode cX6_near 46 = .ok (.istore_n 2, 1) := by decide +kernel
theorem dX6_near_47 : decode cX6_near 47 = .ok (.iinc 3 1, 3) := by decide +kernel
theorem dX6_near_50 : decode cX6_near 50 = .ok (.goto (-32), 3) := by decide +kernel
theorem dX6_near_53 : decode cX6_near 53 = .ok (.iload_n 2, 1) := by decide +kernel
theorem dX6_near_54 : decode cX6_near 54 = .ok (.ireturn, 1) := by decide +kernel
theorem dX6_door_0 : decode cX6_door 0 = .ok (.iload_n 1, 1) := by decide +kernel
theorem dX6_door_1 : decode cX6_door 1 = .ok (.aload_n 0, 1) := by decide +kernel
theorem dX6_door_2 : decode cX6_door 2 = .ok (.getfield 13, 3) := by decide +kernel
theorem dX6_door_5 : decode cX6_door 5 = .ok (.iconst 0, 1) := by decide +kernel
theorem dX6_door_6 : decode cX6_door 6 = .ok (.iaload, 1) := by decide +kernel
theorem dX6_door_7 : decode cX6_door 7 = .ok (.invokestatic 53, 3) := by decide +kernel
theorem dX6_door_10 : decode cX6_door 10 = .ok (.ifCond .ne 9, 3) := by decide +kernel
theorem dX6_door_13 : decode cX6_door 13 = .ok (.aload_n 0, 1) := by decide +kernel
theorem dX6_door_14 : decode cX6_door 14 = .ok (.iconst (-1), 1) := by decide +kernel
theorem dX6_door_15 : decode cX6_door 15 = .ok (.invokevirtual 120, 3) := by decide +kernel
theorem dX6_door_18 : decode cX6_door 18 = .ok (.ireturn, 1) := by decide +kernel
theorem dX6_door_19 : decode cX6_door 19 = .ok (.aload_n 0, 1) := by decide +kernel
theorem dX6_door_20 : decode cX6_door 20 = .ok (.getfield 13, 3) := by decide +kernel
theorem dX6_door_23 : decode cX6_door 23 = .ok (.iconst 1, 1) := by decide +kernel
theorem dX6_door_24 : decode cX6_door 24 = .ok (.dup2, 1) := by decide +kernel
theorem dX6_door_25 : decode cX6_door 25 = .ok (.iaload, 1) := by decide +kernel
theorem dX6_door_26 : decode cX6_door 26 = .ok (.iconst 1, 1) := by decide +kernel
theorem dX6_door_27 : decode cX6_door 27 = .ok (.iload_n 1, 1) := by decide +kernel
theorem dX6_door_28 : decode cX6_door 28 = .ok (.ishl, 1) := by decide +kernel
theorem dX6_door_29 : decode cX6_door 29 = .ok (.ixor, 1) := by decide +kernel
theorem dX6_door_30 : decode cX6_door 30 = .ok (.iastore, 1) := by decide +kernel
theorem dX6_door_31 : decode cX6_door 31 = .ok (.aload_n 0, 1) := by decide +kernel
theorem dX6_door_32 : decode cX6_door 32 = .ok (.getfield 13, 3) := by decide +kernel
theorem dX6_door_35 : decode cX6_door 35 = .ok (.iconst 1, 1) := by decide +kernel
theorem dX6_door_36 : decode cX6_door 36 = .ok (.iaload, 1) := by decide +kernel
theorem dX6_door_37 : decode cX6_door 37 = .ok (.iload_n 1, 1) := by decide +kernel
theorem dX6_door_38 : decode cX6_door 38 = .ok (.ishr, 1) := by decide +kernel
theorem dX6_door_39 : decode cX6_door 39 = .ok (.iconst 1, 1) := by decide +kernel
theorem dX6_door_40 : decode cX6_door 40 = .ok (.iand, 1) := by decide +kernel
theorem dX6_door_41 : decode cX6_door 41 = .ok (.ireturn, 1) := by decide +kernel
theorem dX6_go_0 : decode cX6_go 0 = .ok (.aload_n 0, 1) := by decide +kernel
theorem dX6_go_1 : decode cX6_go 1 = .ok (.iload_n 1, 1) := by decide +kernel
theorem dX6_go_2 : decode cX6_go 2 = .ok (.invokevirtual 144, 3) := by decide +kernel
theorem dX6_go_5 : decode cX6_go 5 = .ok (.ifCond .eq 11, 3) := by decide +kernel
theorem dX6_go_8 : decode cX6_go 8 = .ok (.iload_n 2, 1) := by decide +kernel
theorem dX6_go_9 : decode cX6_go 9 = .ok (.iconst 5, 1) := by decide +kernel
theorem dX6_go_10 : decode cX6_go 10 = .ok (.invokestatic 53, 3) := by decide +kernel
theorem dX6_go_13 : decode cX6_go 13 = .ok (.ifCond .ne 9, 3) := by decide +kernel
theorem dX6_go_16 : decode cX6_go 16 = .ok (.aload_n 0, 1) := by decide +kernel
theorem dX6_go_17 : decode cX6_go 17 = .ok (.iconst (-1), 1) := by decide +kernel
theorem dX6_go_18 : decode cX6_go 18 = .ok (.invokevirtual 120, 3) := by decide +kernel
theorem dX6_go_21 : decode cX6_go 21 = .ok (.ireturn, 1) := by decide +kernel
theorem dX6_go_22 : decode cX6_go 22 = .ok (.aload_n 0, 1) := by decide +kernel
theorem dX6_go_23 : decode cX6_go 23 = .ok (.iload_n 1, 1) := by decide +kernel
theorem dX6_go_24 : decode cX6_go 24 = .ok (.iconst 1, 1) := by decide +kernel
theorem dX6_go_25 : decode cX6_go 25 = .ok (.invokevirtual 61, 3) := by decide +kernel
theorem dX6_go_28 : decode cX6_go 28 = .ok (.istore_n 3, 1) := by decide +kernel
theorem dX6_go_29 : decode cX6_go 29 = .ok (.aload_n 0, 1) := by decide +kernel
theorem dX6_go_30 : decode cX6_go 30 = .ok (.iload_n 1, 1) := by decide +kernel
theorem dX6_go_31 : decode cX6_go 31 = .ok (.iconst 1, 1) := by decide +kernel
theorem dX6_go_32 : decode cX6_go 32 = .ok (.iload_n 2, 1) := by decide +kernel
theorem dX6_go_33 : decode cX6_go 33 = .ok (.invokevirtual 64, 3) := by decide +kernel
theorem dX6_go_36 : decode cX6_go 36 = .ok (.iload_n 3, 1) := by decide +kernel
theorem dX6_go_37 : decode cX6_go 37 = .ok (.ireturn, 1) := by decide +kernel
theorem dX6_get_0 : decode cX6_get 0 = .ok (.aload_n 0, 1) := by decide +kernel
theorem dX6_get_1 : decode cX6_get 1 = .ok (.iload_n 1, 1) := by decide +kernel
theorem dX6_get_2 : decode cX6_get 2 = .ok (.invokevirtual 144, 3) := by decide +kernel
theorem dX6_get_5 : decode cX6_get 5 = .ok (.ifCond .eq 16, 3) := by decide +kernel
theorem dX6_get_8 : decode cX6_get 8 = .ok (.iload_n 2, 1) := by decide +kernel
theorem dX6_get_9 : decode cX6_get 9 = .ok (.iconst (-1), 1) := by decide +kernel
theorem dX6_get_10 : decode cX6_get 10 = .ok (.if_icmp .eq 17, 3) := by decide +kernel
theorem dX6_get_13 : decode cX6_get 13 = .ok (.aload_n 0, 1) := by decide +kernel
theorem dX6_get_14 : decode cX6_get 14 = .ok (.iload_n 2, 1) := by decide +kernel
theorem dX6_get_15 : decode cX6_get 15 = .ok (.invokevirtual 147, 3) := by decide +kernel
theorem dX6_get_18 : decode cX6_get 18 = .ok (.ifCond .ne 9, 3) := by decide +kernel
theorem dX6_get_21 : decode cX6_get 21 = .ok (.aload_n 0, 1) := by decide +kernel
theorem dX6_get_22 : decode cX6_get 22 = .ok (.iconst (-1), 1) := by decide +kernel
theorem dX6_get_23 : decode cX6_get 23 = .ok (.invokevirtual 120, 3) := by decide +kernel
theorem dX6_get_26 : decode cX6_get 26 = .ok (.ireturn, 1) := by decide +kernel
theorem dX6_get_27 : decode cX6_get 27 = .ok (.aload_n 0, 1) := by decide +kernel
theorem dX6_get_28 : decode cX6_get 28 = .ok (.iload_n 1, 1) := by decide +kernel
theorem dX6_get_29 : decode cX6_get 29 = .ok (.iconst 3, 1) := by decide +kernel
theorem dX6_get_30 : decode cX6_get 30 = .ok (.invokevirtual 61, 3) := by decide +kernel
theorem dX6_get_33 : decode cX6_get 33 = .ok (.istore_n 3, 1) := by decide +kernel
theorem dX6_get_34 : decode cX6_get 34 = .ok (.aload_n 0, 1) := by decide +kernel
theorem dX6_get_35 : decode cX6_get 35 = .ok (.iload_n 1, 1) := by decide +kernel
theorem dX6_get_36 : decode cX6_get 36 = .ok (.iload_n 2, 1) := by decide +kernel
theorem dX6_get_37 : decode cX6_get 37 = .ok (.invokevirtual 81, 3) := by decide +kernel
theorem dX6_get_40 : decode cX6_get 40 = .ok (.iload_n 3, 1) := by decide +kernel
theorem dX6_get_41 : decode cX6_get 41 = .ok (.ireturn, 1) := by decide +kernel
theorem dX6_mends_0 : decode cX6_mends 0 = .ok (.iload_n 2, 1) := by decide +kernel
theorem dX6_mends_1 : decode cX6_mends 1 = .ok (.iconst 3, 1) := by decide +kernel
theorem dX6_mends_2 : decode cX6_mends 2 = .ok (.if_icmp .ne 4, 3) := by decide +kernel
theorem dX6_mends_5 : decode cX6_mends 5 = .ok (.return_, 1) := by decide +kernel
theorem dX6_mends_6 : decode cX6_mends 6 = .ok (.iload_n 2, 1) := by decide +kernel
theorem dX6_mends_7 : decode cX6_mends 7 = .ok (.iconst 2, 1) := by decide +kernel
theorem dX6_mends_8 : decode cX6_mends 8 = .ok (.if_icmp .ne 11, 3) := by decide +kernel
theorem dX6_mends_11 : decode cX6_mends 11 = .ok (.aload_n 0, 1) := by decide +kernel
theorem dX6_mends_12 : decode cX6_mends 12 = .ok (.iload_n 1, 1) := by decide +kernel
theorem dX6_mends_13 : decode cX6_mends 13 = .ok (.iconst 5, 1) := by decide +kernel
theorem dX6_mends_14 : decode cX6_mends 14 = .ok (.iconst 3, 1) := by decide +kernel
theorem dX6_mends_15 : decode cX6_mends 15 = .ok (.invokevirtual 64, 3) := by decide +kernel
theorem dX6_mends_18 : decode cX6_mends 18 = .ok (.return_, 1) := by decide +kernel
theorem dX6_mends_19 : decode cX6_mends 19 = .ok (.iload_n 2, 1) := by decide +kernel
theorem dX6_mends_20 : decode cX6_mends 20 = .ok (.ifCond .ne 14, 3) := by decide +kernel
theorem dX6_mends_23 : decode cX6_mends 23 = .ok (.aload_n 0, 1) := by decide +kernel
theorem dX6_mends_24 : decode cX6_mends 24 = .ok (.iload_n 1, 1) := by decide +kernel
theorem dX6_mends_25 : decode cX6_mends 25 = .ok (.iconst 4, 1) := by decide +kernel
theorem dX6_mends_26 : decode cX6_mends 26 = .ok (.invokevirtual 61, 3) := by decide +kernel
theorem dX6_mends_29 : decode cX6_mends 29 = .ok (.iconst 2, 1) := by decide +kernel
theorem dX6_mends_30 : decode cX6_mends 30 = .ok (.idiv, 1) := by decide +kernel
theorem dX6_mends_31 : decode cX6_mends 31 = .ok (.goto 11, 3) := by decide +kernel
theorem dX6_mends_34 : decode cX6_mends 34 = .ok (.aload_n 0, 1) := by decide +kernel
theorem dX6_mends_35 : decode cX6_mends 35 = .ok (.iload_n 1, 1) := by decide +kernel
theorem dX6_mends_36 : decode cX6_mends 36 = .ok (.iconst 4, 1) := by decide +kernel
theorem dX6_mends_37 : decode cX6_mends 37 = .ok (.invokevirtual 61, 3) := by decide +kernel
theorem dX6_mends_40 : decode cX6_mends 40 = .ok (.iconst 4, 1) := by decide +kernel
theorem dX6_mends_41 : decode cX6_mends 41 = .ok (.isub, 1) := by decide +kernel
theorem dX6_mends_42 : decode cX6_mends 42 = .ok (.istore_n 3, 1) := by decide +kernel
theorem dX6_mends_43 : decode cX6_mends 43 = .ok (.iload_n 3, 1) := by decide +kernel
theorem dX6_mends_44 : decode cX6_mends 44 = .ok (.ifCond .gt 13, 3) := by decide +kernel
theorem dX6_mends_47 : decode cX6_mends 47 = .ok (.aload_n 0, 1) := by decide +kernel
theorem dX6_mends_48 : decode cX6_mends 48 = .ok (.iload_n 1, 1) := by decide +kernel
theorem dX6_mends_49 : decode cX6_mends 49 = .ok (.bipush (-9), 2) := by decide +kernel
theorem dX6_mends_51 : decode cX6_mends 51 = .ok (.invokevirtual 81, 3) := by decide +kernel
theorem dX6_mends_54 : decode cX6_mends 54 = .ok (.goto 10, 3) := by decide +kernel
theorem dX6_mends_57 : decode cX6_mends 57 = .ok (.aload_n 0, 1) := by decide +kernel
theorem dX6_mends_58 : decode cX6_mends 58 = .ok (.iload_n 1, 1) := by decide +kernel
theorem dX6_mends_59 : decode cX6_mends 59 = .ok (.iconst 4, 1) := by decide +kernel
theorem dX6_mends_60 : decode cX6_mends 60 = .ok (.iload_n 3, 1) := by decide +kernel
theorem dX6_mends_61 : decode cX6_mends 61 = .ok (.invokevirtual 64, 3) := by decide +kernel
theorem dX6_mends_64 : decode cX6_mends 64 = .ok (.return_, 1) := by decide +kernel
theorem dX6_remedy_0 : decode cX6_remedy 0 = .ok (.aload_n 0, 1) := by decide +kernel
theorem dX6_remedy_1 : decode cX6_remedy 1 = .ok (.iload_n 1, 1) := by decide +kernel
theorem dX6_remedy_2 : decode cX6_remedy 2 = .ok (.invokevirtual 144, 3) := by decide +kernel
theorem dX6_remedy_5 : decode cX6_remedy 5 = .ok (.ifCond .ne 7, 3) := by decide +kernel
theorem dX6_remedy_8 : decode cX6_remedy 8 = .ok (.iconst (-1), 1) := by decide +kernel
theorem dX6_remedy_9 : decode cX6_remedy 9 = .ok (.goto 36, 3) := by decide +kernel
theorem dX6_remedy_12 : decode cX6_remedy 12 = .ok (.iload_n 2, 1) := by decide +kernel
theorem dX6_remedy_13 : decode cX6_remedy 13 = .ok (.iconst 3, 1) := by decide +kernel
theorem dX6_remedy_14 : decode cX6_remedy 14 = .ok (.invokestatic 53, 3) := by decide +kernel
theorem dX6_remedy_17 : decode cX6_remedy 17 = .ok (.ifCond .ne 8, 3) := by decide +kernel
theorem dX6_remedy_20 : decode cX6_remedy 20 = .ok (.bipush (-2), 2) := by decide +kernel
theorem dX6_remedy_22 : decode cX6_remedy 22 = .ok (.goto 23, 3) := by decide +kernel
theorem dX6_remedy_25 : decode cX6_remedy 25 = .ok (.iload_n 2, 1) := by decide +kernel
theorem dX6_remedy_26 : decode cX6_remedy 26 = .ok (.iconst 2, 1) := by decide +kernel
theorem dX6_remedy_27 : decode cX6_remedy 27 = .ok (.if_icmp .ge 17, 3) := by decide +kernel
theorem dX6_remedy_30 : decode cX6_remedy 30 = .ok (.aload_n 0, 1) := by decide +kernel
theorem dX6_remedy_31 : decode cX6_remedy 31 = .ok (.iload_n 1, 1) := by decide +kernel
theorem dX6_remedy_32 : decode cX6_remedy 32 = .ok (.iconst 3, 1) := by decide +kernel
theorem dX6_remedy_33 : decode cX6_remedy 33 = .ok (.invokevirtual 61, 3) := by decide +kernel
theorem dX6_remedy_36 : decode cX6_remedy 36 = .ok (.ifCond .ge 8, 3) := by decide +kernel
theorem dX6_remedy_39 : decode cX6_remedy 39 = .ok (.bipush (-3), 2) := by decide +kernel
theorem dX6_remedy_41 : decode cX6_remedy 41 = .ok (.goto 4, 3) := by decide +kernel
theorem dX6_remedy_44 : decode cX6_remedy 44 = .ok (.iconst 0, 1) := by decide +kernel
theorem dX6_remedy_45 : decode cX6_remedy 45 = .ok (.istore_n 3, 1) := by decide +kernel
theorem dX6_remedy_46 : decode cX6_remedy 46 = .ok (.iload_n 3, 1) := by decide +kernel
theorem dX6_remedy_47 : decode cX6_remedy 47 = .ok (.ifCond .eq 9, 3) := by decide +kernel
theorem dX6_remedy_50 : decode cX6_remedy 50 = .ok (.aload_n 0, 1) := by decide +kernel
theorem dX6_remedy_51 : decode cX6_remedy 51 = .ok (.iload_n 3, 1) := by decide +kernel
theorem dX6_remedy_52 : decode cX6_remedy 52 = .ok (.invokevirtual 120, 3) := by decide +kernel
theorem dX6_remedy_55 : decode cX6_remedy 55 = .ok (.ireturn, 1) := by decide +kernel
theorem dX6_remedy_56 : decode cX6_remedy 56 = .ok (.aload_n 0, 1) := by decide +kernel
theorem dX6_remedy_57 : decode cX6_remedy 57 = .ok (.iload_n 1, 1) := by decide +kernel
theorem dX6_remedy_58 : decode cX6_remedy 58 = .ok (.iload_n 2, 1) := by decide +kernel
theorem dX6_remedy_59 : decode cX6_remedy 59 = .ok (.invokevirtual 160, 3) := by decide +kernel
theorem dX6_remedy_62 : decode cX6_remedy 62 = .ok (.aload_n 0, 1) := by decide +kernel
theorem dX6_remedy_63 : decode cX6_remedy 63 = .ok (.iload_n 1, 1) := by decide +kernel
theorem dX6_remedy_64 : decode cX6_remedy 64 = .ok (.iconst 4, 1) := by decide +kernel
theorem dX6_remedy_65 : decode cX6_remedy 65 = .ok (.invokevirtual 61, 3) := by decide +kernel
theorem dX6_remedy_68 : decode cX6_remedy 68 = .ok (.ireturn, 1) := by decide +kernel
theorem dX6_loud_0 : decode cX6_loud 0 = .ok (.iload_n 1, 1) := by decide +kernel
theorem dX6_loud_1 : decode cX6_loud 1 = .ok (.iconst 1, 1) := by decide +kernel
theorem dX6_loud_2 : decode cX6_loud 2 = .ok (.bipush 20, 2) := by decide +kernel
theorem dX6_loud_4 : decode cX6_loud 4 = .ok (.invokestatic 112, 3) := by decide +kernel
theorem dX6_loud_7 : decode cX6_loud 7 = .ok (.istore_n 2, 1) := by decide +kernel
theorem dX6_loud_8 : decode cX6_loud 8 = .ok (.iload_n 2, 1) := by decide +kernel
theorem dX6_loud_9 : decode cX6_loud 9 = .ok (.ifCond .eq 9, 3) := by decide +kernel
theorem dX6_loud_12 : decode cX6_loud 12 = .ok (.aload_n 0, 1) := by decide +kernel
theorem dX6_loud_13 : decode cX6_loud 13 = .ok (.iload_n 2, 1) := by decide +kernel
theorem dX6_loud_14 : decode cX6_loud 14 = .ok (.invokevirtual 120, 3) := by decide +kernel
theorem dX6_loud_17 : decode cX6_loud 17 = .ok (.ireturn, 1) := by decide +kernel
theorem dX6_loud_18 : decode cX6_loud 18 = .ok (.aload_n 0, 1) := by decide +kernel
theorem dX6_loud_19 : decode cX6_loud 19 = .ok (.getfield 13, 3) := by decide +kernel
theorem dX6_loud_22 : decode cX6_loud 22 = .ok (.iconst 5, 1) := by decide +kernel
theorem dX6_loud_23 : decode cX6_loud 23 = .ok (.iaload, 1) := by decide +kernel
theorem dX6_loud_24 : decode cX6_loud 24 = .ok (.istore_n 3, 1) := by decide +kernel
theorem dX6_loud_25 : decode cX6_loud 25 = .ok (.aload_n 0, 1) := by decide +kernel
theorem dX6_loud_26 : decode cX6_loud 26 = .ok (.getfield 13, 3) := by decide +kernel
theorem dX6_loud_29 : decode cX6_loud 29 = .ok (.iconst 5, 1) := by decide +kernel
theorem dX6_loud_30 : decode cX6_loud 30 = .ok (.iload_n 1, 1) := by decide +kernel
theorem dX6_loud_31 : decode cX6_loud 31 = .ok (.iastore, 1) := by decide +kernel
theorem dX6_loud_32 : decode cX6_loud 32 = .ok (.iload_n 3, 1) := by decide +kernel
theorem dX6_loud_33 : decode cX6_loud 33 = .ok (.ireturn, 1) := by decide +kernel
theorem dX6_hour_0 : decode cX6_hour 0 = .ok (.aload_n 0, 1) := by decide +kernel
theorem dX6_hour_1 : decode cX6_hour 1 = .ok (.getfield 13, 3) := by decide +kernel
theorem dX6_hour_4 : decode cX6_hour 4 = .ok (.iconst 4, 1) := by decide +kernel
theorem dX6_hour_5 : decode cX6_hour 5 = .ok (.iaload, 1) := by decide +kernel
theorem dX6_hour_6 : decode cX6_hour 6 = .ok (.sipush 999, 3) := by decide +kernel
theorem dX6_hour_9 : decode cX6_hour 9 = .ok (.if_icmp .ne 12, 3) := by decide +kernel
theorem dX6_hour_12 : decode cX6_hour 12 = .ok (.aload_n 0, 1) := by decide +kernel
theorem dX6_hour_13 : decode cX6_hour 13 = .ok (.bipush (-6), 2) := by decide +kernel
theorem dX6_hour_15 : decode cX6_hour 15 = .ok (.invokevirtual 120, 3) := by decide +kernel
theorem dX6_hour_18 : decode cX6_hour 18 = .ok (.goto 7, 3) := by decide +kernel
theorem dX6_hour_21 : decode cX6_hour 21 = .ok (.aload_n 0, 1) := by decide +kernel
theorem dX6_hour_22 : decode cX6_hour 22 = .ok (.invokevirtual 99, 3) := by decide +kernel
theorem dX6_hour_25 : decode cX6_hour 25 = .ok (.ireturn, 1) := by decide +kernel
theorem dX6_wrong_0 : decode cX6_wrong 0 = .ok (.iload_n 1, 1) := by decide +kernel
theorem dX6_wrong_1 : decode cX6_wrong 1 = .ok (.ifCond .eq 13, 3) := by decide +kernel
theorem dX6_wrong_4 : decode cX6_wrong 4 = .ok (.iload_n 2, 1) := by decide +kernel
theorem dX6_wrong_5 : decode cX6_wrong 5 = .ok (.iconst 0, 1) := by decide +kernel
theorem dX6_wrong_6 : decode cX6_wrong 6 = .ok (.bipush 60, 2) := by decide +kernel
theorem dX6_wrong_8 : decode cX6_wrong 8 = .ok (.invokestatic 112, 3) := by decide +kernel
theorem dX6_wrong_11 : decode cX6_wrong 11 = .ok (.goto 4, 3) := by decide +kernel
theorem dX6_wrong_14 : decode cX6_wrong 14 = .ok (.iconst (-1), 1) := by decide +kernel
theorem dX6_wrong_15 : decode cX6_wrong 15 = .ok (.ireturn, 1) := by decide +kernel
theorem dX6_hold_0 : decode cX6_hold 0 = .ok (.aload_n 0, 1) := by decide +kernel
theorem dX6_hold_1 : decode cX6_hold 1 = .ok (.aload_n 0, 1) := by decide +kernel
theorem dX6_hold_2 : decode cX6_hold 2 = .ok (.iload_n 1, 1) := by decide +kernel
theorem dX6_hold_3 : decode cX6_hold 3 = .ok (.invokevirtual 144, 3) := by decide +kernel
theorem dX6_hold_6 : decode cX6_hold 6 = .ok (.iload_n 2, 1) := by decide +kernel
theorem dX6_hold_7 : decode cX6_hold 7 = .ok (.invokevirtual 163, 3) := by decide +kernel
theorem dX6_hold_10 : decode cX6_hold 10 = .ok (.istore 4, 2) := by decide +kernel
theorem dX6_hold_12 : decode cX6_hold 12 = .ok (.iload 4, 2) := by decide +kernel
theorem dX6_hold_14 : decode cX6_hold 14 = .ok (.ifCond .ne 15, 3) := by decide +kernel
theorem dX6_hold_17 : decode cX6_hold 17 = .ok (.iload_n 3, 1) := by decide +kernel
theorem dX6_hold_18 : decode cX6_hold 18 = .ok (.iconst 2, 1) := by decide +kernel
theorem dX6_hold_19 : decode cX6_hold 19 = .ok (.invokestatic 53, 3) := by decide +kernel
theorem dX6_hold_22 : decode cX6_hold 22 = .ok (.ifCond .ne 7, 3) := by decide +kernel
theorem dX6_hold_25 : decode cX6_hold 25 = .ok (.bipush (-2), 2) := by decide +kernel
theorem dX6_hold_27 : decode cX6_hold 27 = .ok (.istore 4, 2) := by decide +kernel
theorem dX6_hold_29 : decode cX6_hold 29 = .ok (.iload 4, 2) := by decide +kernel
theorem dX6_hold_31 : decode cX6_hold 31 = .ok (.ifCond .eq 10, 3) := by decide +kernel
theorem dX6_hold_34 : decode cX6_hold 34 = .ok (.aload_n 0, 1) := by decide +kernel
theorem dX6_hold_35 : decode cX6_hold 35 = .ok (.iload 4, 2) := by decide +kernel
theorem dX6_hold_37 : decode cX6_hold 37 = .ok (.invokevirtual 120, 3) := by decide +kernel
theorem dX6_hold_40 : decode cX6_hold 40 = .ok (.ireturn, 1) := by decide +kernel
theorem dX6_hold_41 : decode cX6_hold 41 = .ok (.aload_n 0, 1) := by decide +kernel
theorem dX6_hold_42 : decode cX6_hold 42 = .ok (.invokevirtual 96, 3) := by decide +kernel
theorem dX6_hold_45 : decode cX6_hold 45 = .ok (.aload_n 0, 1) := by decide +kernel
theorem dX6_hold_46 : decode cX6_hold 46 = .ok (.iload_n 2, 1) := by decide +kernel
theorem dX6_hold_47 : decode cX6_hold 47 = .ok (.invokevirtual 103, 3) := by decide +kernel
theorem dX6_hold_50 : decode cX6_hold 50 = .ok (.aload_n 0, 1) := by decide +kernel
theorem dX6_hold_51 : decode cX6_hold 51 = .ok (.iload_n 1, 1) := by decide +kernel
theorem dX6_hold_52 : decode cX6_hold 52 = .ok (.iconst 3, 1) := by decide +kernel
theorem dX6_hold_53 : decode cX6_hold 53 = .ok (.iload_n 3, 1) := by decide +kernel
theorem dX6_hold_54 : decode cX6_hold 54 = .ok (.iadd, 1) := by decide +kernel
theorem dX6_hold_55 : decode cX6_hold 55 = .ok (.invokevirtual 61, 3) := by decide +kernel
theorem dX6_hold_58 : decode cX6_hold 58 = .ok (.istore 5, 2) := by decide +kernel
theorem dX6_hold_60 : decode cX6_hold 60 = .ok (.aload_n 0, 1) := by decide +kernel
theorem dX6_hold_61 : decode cX6_hold 61 = .ok (.invokevirtual 109, 3) := by decide +kernel
theorem dX6_hold_64 : decode cX6_hold 64 = .ok (.iload 5, 2) := by decide +kernel
theorem dX6_hold_66 : decode cX6_hold 66 = .ok (.ireturn, 1) := by decide +kernel
theorem dX6_have_0 : decode cX6_have 0 = .ok (.aload_n 0, 1) := by decide +kernel
theorem dX6_have_1 : decode cX6_have 1 = .ok (.iload_n 1, 1) := by decide +kernel
theorem dX6_have_2 : decode cX6_have 2 = .ok (.iconst (-1), 1) := by decide +kernel
theorem dX6_have_3 : decode cX6_have 3 = .ok (.if_icmp .eq 11, 3) := by decide +kernel
theorem dX6_have_6 : decode cX6_have 6 = .ok (.aload_n 0, 1) := by decide +kernel
theorem dX6_have_7 : decode cX6_have 7 = .ok (.iload_n 1, 1) := by decide +kernel
theorem dX6_have_8 : decode cX6_have 8 = .ok (.invokevirtual 147, 3) := by decide +kernel
theorem dX6_have_11 : decode cX6_have 11 = .ok (.ifCond .eq 7, 3) := by decide +kernel
theorem dX6_have_14 : decode cX6_have 14 = .ok (.iconst 1, 1) := by decide +kernel
theorem dX6_have_15 : decode cX6_have 15 = .ok (.goto 4, 3) := by decide +kernel
theorem dX6_have_18 : decode cX6_have 18 = .ok (.iconst 0, 1) := by decide +kernel
theorem dX6_have_19 : decode cX6_have 19 = .ok (.iload_n 2, 1) := by decide +kernel
theorem dX6_have_20 : decode cX6_have 20 = .ok (.invokevirtual 163, 3) := by decide +kernel
theorem dX6_have_23 : decode cX6_have 23 = .ok (.istore_n 3, 1) := by decide +kernel
theorem dX6_have_24 : decode cX6_have 24 = .ok (.iload_n 3, 1) := by decide +kernel
theorem dX6_have_25 : decode cX6_have 25 = .ok (.ifCond .eq 9, 3) := by decide +kernel
theorem dX6_have_28 : decode cX6_have 28 = .ok (.aload_n 0, 1) := by decide +kernel
theorem dX6_have_29 : decode cX6_have 29 = .ok (.iload_n 3, 1) := by decide +kernel
theorem dX6_have_30 : decode cX6_have 30 = .ok (.invokevirtual 120, 3) := by decide +kernel
theorem dX6_have_33 : decode cX6_have 33 = .ok (.ireturn, 1) := by decide +kernel
theorem dX6_have_34 : decode cX6_have 34 = .ok (.aload_n 0, 1) := by decide +kernel
theorem dX6_have_35 : decode cX6_have 35 = .ok (.invokevirtual 96, 3) := by decide +kernel
theorem dX6_have_38 : decode cX6_have 38 = .ok (.aload_n 0, 1) := by decide +kernel
theorem dX6_have_39 : decode cX6_have 39 = .ok (.iload_n 1, 1) := by decide +kernel
theorem dX6_have_40 : decode cX6_have 40 = .ok (.iload_n 2, 1) := by decide +kernel
theorem dX6_have_41 : decode cX6_have 41 = .ok (.invokevirtual 167, 3) := by decide +kernel
theorem dX6_have_44 : decode cX6_have 44 = .ok (.ireturn, 1) := by decide +kernel
theorem dX6_takes__0 : decode cX6_takes_ 0 = .ok (.aload_n 0, 1) := by decide +kernel
theorem dX6_takes__1 : decode cX6_takes_ 1 = .ok (.iload_n 1, 1) := by decide +kernel
theorem dX6_takes__2 : decode cX6_takes_ 2 = .ok (.invokevirtual 144, 3) := by decide +kernel
theorem dX6_takes__5 : decode cX6_takes_ 5 = .ok (.ifCond .eq 11, 3) := by decide +kernel
theorem dX6_takes__8 : decode cX6_takes_ 8 = .ok (.aload_n 0, 1) := by decide +kernel
theorem dX6_takes__9 : decode cX6_takes_ 9 = .ok (.iload_n 2, 1) := by decide +kernel
theorem dX6_takes__10 : decode cX6_takes_ 10 = .ok (.invokevirtual 147, 3) := by decide +kernel
theorem dX6_takes__13 : decode cX6_takes_ 13 = .ok (.ifCond .ne 9, 3) := by decide +kernel
theorem dX6_takes__16 : decode cX6_takes_ 16 = .ok (.aload_n 0, 1) := by decide +kernel
theorem dX6_takes__17 : decode cX6_takes_ 17 = .ok (.iconst (-1), 1) := by decide +kernel
theorem dX6_takes__18 : decode cX6_takes_ 18 = .ok (.invokevirtual 120, 3) := by decide +kernel
theorem dX6_takes__21 : decode cX6_takes_ 21 = .ok (.ireturn, 1) := by decide +kernel
theorem dX6_takes__22 : decode cX6_takes_ 22 = .ok (.aload_n 0, 1) := by decide +kernel
theorem dX6_takes__23 : decode cX6_takes_ 23 = .ok (.invokevirtual 96, 3) := by decide +kernel
theorem dX6_takes__26 : decode cX6_takes_ 26 = .ok (.bipush (-9), 2) := by decide +kernel
theorem dX6_takes__28 : decode cX6_takes_ 28 = .ok (.istore_n 3, 1) := by decide +kernel
theorem dX6_takes__29 : decode cX6_takes_ 29 = .ok (.iconst 0, 1) := by decide +kernel
theorem dX6_takes__30 : decode cX6_takes_ 30 = .ok (.istore 4, 2) := by decide +kernel
theorem dX6_takes__32 : decode cX6_takes_ 32 = .ok (.iload 4, 2) := by decide +kernel
theorem dX6_takes__34 : decode cX6_takes_ 34 = .ok (.bipush 60, 2) := by decide +kernel
theorem dX6_takes__36 : decode cX6_takes_ 36 = .ok (.if_icmp .gt 36, 3) := by decide +kernel
theorem dX6_takes__39 : decode cX6_takes_ 39 = .ok (.iload_n 3, 1) := by decide +kernel
theorem dX6_takes__40 : decode cX6_takes_ 40 = .ok (.ifCond .ge 32, 3) := by decide +kernel
theorem dX6_takes__43 : decode cX6_takes_ 43 = .ok (.aload_n 0, 1) := by decide +kernel
theorem dX6_takes__44 : decode cX6_takes_ 44 = .ok (.iload_n 1, 1) := by decide +kernel
theorem dX6_takes__45 : decode cX6_takes_ 45 = .ok (.iconst 3, 1) := by decide +kernel
theorem dX6_takes__46 : decode cX6_takes_ 46 = .ok (.invokevirtual 61, 3) := by decide +kernel
theorem dX6_takes__49 : decode cX6_takes_ 49 = .ok (.iload_n 2, 1) := by decide +kernel
theorem dX6_takes__50 : decode cX6_takes_ 50 = .ok (.if_icmp .ne 8, 3) := by decide +kernel
theorem dX6_takes__53 : decode cX6_takes_ 53 = .ok (.iload 4, 2) := by decide +kernel
theorem dX6_takes__55 : decode cX6_takes_ 55 = .ok (.goto 5, 3) := by decide +kernel
theorem dX6_takes__58 : decode cX6_takes_ 58 = .ok (.bipush (-9), 2) := by decide +kernel
theorem dX6_takes__60 : decode cX6_takes_ 60 = .ok (.istore_n 3, 1) := by decide +kernel
theorem dX6_takes__61 : decode cX6_takes_ 61 = .ok (.aload_n 0, 1) := by decide +kernel
theorem dX6_takes__62 : decode cX6_takes_ 62 = .ok (.invokevirtual 99, 3) := by decide +kernel
theorem dX6_takes__65 : decode cX6_takes_ 65 = .ok (.pop, 1) := by decide +kernel
theorem dX6_takes__66 : decode cX6_takes_ 66 = .ok (.iinc 4 1, 3) := by decide +kernel
theorem dX6_takes__69 : decode cX6_takes_ 69 = .ok (.goto (-37), 3) := by decide +kernel
theorem dX6_takes__72 : decode cX6_takes_ 72 = .ok (.aload_n 0, 1) := by decide +kernel
theorem dX6_takes__73 : decode cX6_takes_ 73 = .ok (.invokevirtual 109, 3) := by decide +kernel
theorem dX6_takes__76 : decode cX6_takes_ 76 = .ok (.iload_n 3, 1) := by decide +kernel
theorem dX6_takes__77 : decode cX6_takes_ 77 = .ok (.ireturn, 1) := by decide +kernel
theorem dX6_still_0 : decode cX6_still 0 = .ok (.aload_n 0, 1) := by decide +kernel
theorem dX6_still_1 : decode cX6_still 1 = .ok (.invokevirtual 96, 3) := by decide +kernel
theorem dX6_still_4 : decode cX6_still 4 = .ok (.bipush (-9), 2) := by decide +kernel
theorem dX6_still_6 : decode cX6_still 6 = .ok (.istore_n 1, 1) := by decide +kernel
theorem dX6_still_7 : decode cX6_still 7 = .ok (.iconst 0, 1) := by decide +kernel
theorem dX6_still_8 : decode cX6_still 8 = .ok (.istore_n 2, 1) := by decide +kernel
theorem dX6_still_9 : decode cX6_still 9 = .ok (.iload_n 2, 1) := by decide +kernel
theorem dX6_still_10 : decode cX6_still 10 = .ok (.bipush 60, 2) := by decide +kernel
theorem dX6_still_12 : decode cX6_still 12 = .ok (.if_icmp .gt 33, 3) := by decide +kernel
theorem dX6_still_15 : decode cX6_still 15 = .ok (.iload_n 1, 1) := by decide +kernel
theorem dX6_still_16 : decode cX6_still 16 = .ok (.ifCond .ge 29, 3) := by decide +kernel
theorem dX6_still_19 : decode cX6_still 19 = .ok (.aload_n 0, 1) := by decide +kernel
theorem dX6_still_20 : decode cX6_still 20 = .ok (.iconst (-1), 1) := by decide +kernel
theorem dX6_still_21 : decode cX6_still 21 = .ok (.invokevirtual 106, 3) := by decide +kernel
theorem dX6_still_24 : decode cX6_still 24 = .ok (.ifCond .ne 7, 3) := by decide +kernel
theorem dX6_still_27 : decode cX6_still 27 = .ok (.iload_n 2, 1) := by decide +kernel
theorem dX6_still_28 : decode cX6_still 28 = .ok (.goto 5, 3) := by decide +kernel
theorem dX6_still_31 : decode cX6_still 31 = .ok (.bipush (-9), 2) := by decide +kernel
theorem dX6_still_33 : decode cX6_still 33 = .ok (.istore_n 1, 1) := by decide +kernel
theorem dX6_still_34 : decode cX6_still 34 = .ok (.aload_n 0, 1) := by decide +kernel
theorem dX6_still_35 : decode cX6_still 35 = .ok (.invokevirtual 99, 3) := by decide +kernel
theorem dX6_still_38 : decode cX6_still 38 = .ok (.pop, 1) := by decide +kernel
theorem dX6_still_39 : decode cX6_still 39 = .ok (.iinc 2 1, 3) := by decide +kernel
theorem dX6_still_42 : decode cX6_still 42 = .ok (.goto (-33), 3) := by decide +kernel
theorem dX6_still_45 : decode cX6_still 45 = .ok (.aload_n 0, 1) := by decide +kernel
theorem dX6_still_46 : decode cX6_still 46 = .ok (.invokevirtual 109, 3) := by decide +kernel
theorem dX6_still_49 : decode cX6_still 49 = .ok (.iload_n 1, 1) := by decide +kernel
theorem dX6_still_50 : decode cX6_still 50 = .ok (.ireturn, 1) := by decide +kernel
theorem dX6_most_0 : decode cX6_most 0 = .ok (.aload_n 0, 1) := by decide +kernel
theorem dX6_most_1 : decode cX6_most 1 = .ok (.iload_n 1, 1) := by decide +kernel
theorem dX6_most_2 : decode cX6_most 2 = .ok (.iconst (-1), 1) := by decide +kernel
theorem dX6_most_3 : decode cX6_most 3 = .ok (.if_icmp .eq 11, 3) := by decide +kernel
theorem dX6_most_6 : decode cX6_most 6 = .ok (.aload_n 0, 1) := by decide +kernel
theorem dX6_most_7 : decode cX6_most 7 = .ok (.iload_n 1, 1) := by decide +kernel
theorem dX6_most_8 : decode cX6_most 8 = .ok (.invokevirtual 147, 3) := by decide +kernel
theorem dX6_most_11 : decode cX6_most 11 = .ok (.ifCond .eq 7, 3) := by decide +kernel
theorem dX6_most_14 : decode cX6_most 14 = .ok (.iconst 1, 1) := by decide +kernel
theorem dX6_most_15 : decode cX6_most 15 = .ok (.goto 4, 3) := by decide +kernel
theorem dX6_most_18 : decode cX6_most 18 = .ok (.iconst 0, 1) := by decide +kernel
theorem dX6_most_19 : decode cX6_most 19 = .ok (.iload_n 2, 1) := by decide +kernel
theorem dX6_most_20 : decode cX6_most 20 = .ok (.invokevirtual 163, 3) := by decide +kernel
theorem dX6_most_23 : decode cX6_most 23 = .ok (.istore 4, 2) := by decide +kernel
theorem dX6_most_25 : decode cX6_most 25 = .ok (.iload 4, 2) := by decide +kernel
theorem dX6_most_27 : decode cX6_most 27 = .ok (.ifCond .ne 15, 3) := by decide +kernel
theorem dX6_most_30 : decode cX6_most 30 = .ok (.iload_n 3, 1) := by decide +kernel
theorem dX6_most_31 : decode cX6_most 31 = .ok (.iconst 2, 1) := by decide +kernel
theorem dX6_most_32 : decode cX6_most 32 = .ok (.invokestatic 53, 3) := by decide +kernel
theorem dX6_most_35 : decode cX6_most 35 = .ok (.ifCond .ne 7, 3) := by decide +kernel
theorem dX6_most_38 : decode cX6_most 38 = .ok (.bipush (-2), 2) := by decide +kernel
theorem dX6_most_40 : decode cX6_most 40 = .ok (.istore 4, 2) := by decide +kernel
theorem dX6_most_42 : decode cX6_most 42 = .ok (.iload 4, 2) := by decide +kernel
theorem dX6_most_44 : decode cX6_most 44 = .ok (.ifCond .eq 10, 3) := by decide +kernel
theorem dX6_most_47 : decode cX6_most 47 = .ok (.aload_n 0, 1) := by decide +kernel
theorem dX6_most_48 : decode cX6_most 48 = .ok (.iload 4, 2) := by decide +kernel
theorem dX6_most_50 : decode cX6_most 50 = .ok (.invokevirtual 120, 3) := by decide +kernel
theorem dX6_most_53 : decode cX6_most 53 = .ok (.ireturn, 1) := by decide +kernel
theorem dX6_most_54 : decode cX6_most 54 = .ok (.aload_n 0, 1) := by decide +kernel
theorem dX6_most_55 : decode cX6_most 55 = .ok (.invokevirtual 96, 3) := by decide +kernel
theorem dX6_most_58 : decode cX6_most 58 = .ok (.bipush (-9), 2) := by decide +kernel
theorem dX6_most_60 : decode cX6_most 60 = .ok (.istore 5, 2) := by decide +kernel
theorem dX6_most_62 : decode cX6_most 62 = .ok (.bipush (-9), 2) := by decide +kernel
theorem dX6_most_64 : decode cX6_most 64 = .ok (.istore 6, 2) := by decide +kernel
theorem dX6_most_66 : decode cX6_most 66 = .ok (.iconst 0, 1) := by decide +kernel
theorem dX6_most_67 : decode cX6_most 67 = .ok (.istore 7, 2) := by decide +kernel
theorem dX6_most_69 : decode cX6_most 69 = .ok (.iload 7, 2) := by decide +kernel
theorem dX6_most_71 : decode cX6_most 71 = .ok (.iload_n 2, 1) := by decide +kernel
theorem dX6_most_72 : decode cX6_most 72 = .ok (.if_icmp .gt 53, 3) := by decide +kernel
theorem dX6_most_75 : decode cX6_most 75 = .ok (.aload_n 0, 1) := by decide +kernel
theorem dX6_most_76 : decode cX6_most 76 = .ok (.iload_n 1, 1) := by decide +kernel
theorem dX6_most_77 : decode cX6_most 77 = .ok (.invokevirtual 106, 3) := by decide +kernel
theorem dX6_most_80 : decode cX6_most 80 = .ok (.istore 8, 2) := by decide +kernel
theorem dX6_most_82 : decode cX6_most 82 = .ok (.iload 8, 2) := by decide +kernel
theorem dX6_most_84 : decode cX6_most 84 = .ok (.iload 6, 2) := by decide +kernel
theorem dX6_most_86 : decode cX6_most 86 = .ok (.if_icmp .le 8, 3) := by decide +kernel
theorem dX6_most_89 : decode cX6_most 89 = .ok (.iload 7, 2) := by decide +kernel
theorem dX6_most_91 : decode cX6_most 91 = .ok (.goto 5, 3) := by decide +kernel
theorem dX6_most_94 : decode cX6_most 94 = .ok (.iload 5, 2) := by decide +kernel
theorem dX6_most_96 : decode cX6_most 96 = .ok (.istore 5, 2) := by decide +kernel
theorem dX6_most_98 : decode cX6_most 98 = .ok (.iload 8, 2) := by decide +kernel
theorem dX6_most_100 : decode cX6_most 100 = .ok (.iload 6, 2) := by decide +kernel
theorem dX6_most_102 : decode cX6_most 102 = .ok (.if_icmp .le 8, 3) := by decide +kernel
theorem dX6_most_105 : decode cX6_most 105 = .ok (.iload 8, 2) := by decide +kernel
theorem dX6_most_107 : decode cX6_most 107 = .ok (.goto 5, 3) := by decide +kernel
theorem dX6_most_110 : decode cX6_most 110 = .ok (.iload 6, 2) := by decide +kernel
theorem dX6_most_112 : decode cX6_most 112 = .ok (.istore 6, 2) := by decide +kernel
theorem dX6_most_114 : decode cX6_most 114 = .ok (.aload_n 0, 1) := by decide +kernel
theorem dX6_most_115 : decode cX6_most 115 = .ok (.invokevirtual 99, 3) := by decide +kernel
theorem dX6_most_118 : decode cX6_most 118 = .ok (.pop, 1) := by decide +kernel
theorem dX6_most_119 : decode cX6_most 119 = .ok (.iinc 7 1, 3) := by decide +kernel
theorem dX6_most_122 : decode cX6_most 122 = .ok (.goto (-53), 3) := by decide +kernel
theorem dX6_most_125 : decode cX6_most 125 = .ok (.aload_n 0, 1) := by decide +kernel
theorem dX6_most_126 : decode cX6_most 126 = .ok (.invokevirtual 109, 3) := by decide +kernel
theorem dX6_most_129 : decode cX6_most 129 = .ok (.iload_n 3, 1) := by decide +kernel
theorem dX6_most_130 : decode cX6_most 130 = .ok (.ifCond .ne 8, 3) := by decide +kernel
theorem dX6_most_133 : decode cX6_most 133 = .ok (.iload 5, 2) := by decide +kernel
theorem dX6_most_135 : decode cX6_most 135 = .ok (.goto 5, 3) := by decide +kernel
theorem dX6_most_138 : decode cX6_most 138 = .ok (.iload 6, 2) := by decide +kernel
theorem dX6_most_140 : decode cX6_most 140 = .ok (.ireturn, 1) := by decide +kernel
theorem dX6_lasts_0 : decode cX6_lasts 0 = .ok (.iload_n 1, 1) := by decide +kernel
theorem dX6_lasts_1 : decode cX6_lasts 1 = .ok (.iconst 0, 1) := by decide +kernel
theorem dX6_lasts_2 : decode cX6_lasts 2 = .ok (.bipush 60, 2) := by decide +kernel
theorem dX6_lasts_4 : decode cX6_lasts 4 = .ok (.invokestatic 112, 3) := by decide +kernel
theorem dX6_lasts_7 : decode cX6_lasts 7 = .ok (.istore_n 2, 1) := by decide +kernel
theorem dX6_lasts_8 : decode cX6_lasts 8 = .ok (.iload_n 2, 1) := by decide +kernel
theorem dX6_lasts_9 : decode cX6_lasts 9 = .ok (.ifCond .eq 9, 3) := by decide +kernel
theorem dX6_lasts_12 : decode cX6_lasts 12 = .ok (.aload_n 0, 1) := by decide +kernel
theorem dX6_lasts_13 : decode cX6_lasts 13 = .ok (.iload_n 2, 1) := by decide +kernel
theorem dX6_lasts_14 : decode cX6_lasts 14 = .ok (.invokevirtual 120, 3) := by decide +kernel
theorem dX6_lasts_17 : decode cX6_lasts 17 = .ok (.ireturn, 1) := by decide +kernel
theorem dX6_lasts_18 : decode cX6_lasts 18 = .ok (.aload_n 0, 1) := by decide +kernel
theorem dX6_lasts_19 : decode cX6_lasts 19 = .ok (.invokevirtual 96, 3) := by decide +kernel
theorem dX6_lasts_22 : decode cX6_lasts 22 = .ok (.aload_n 0, 1) := by decide +kernel
theorem dX6_lasts_23 : decode cX6_lasts 23 = .ok (.iload_n 1, 1) := by decide +kernel
theorem dX6_lasts_24 : decode cX6_lasts 24 = .ok (.invokevirtual 103, 3) := by decide +kernel
theorem dX6_lasts_27 : decode cX6_lasts 27 = .ok (.bipush (-9), 2) := by decide +kernel
theorem dX6_lasts_29 : decode cX6_lasts 29 = .ok (.istore_n 3, 1) := by decide +kernel
theorem dX6_lasts_30 : decode cX6_lasts 30 = .ok (.iconst 0, 1) := by decide +kernel
theorem dX6_lasts_31 : decode cX6_lasts 31 = .ok (.istore 4, 2) := by decide +kernel
theorem dX6_lasts_33 : decode cX6_lasts 33 = .ok (.iconst 0, 1) := by decide +kernel
theorem dX6_lasts_34 : decode cX6_lasts 34 = .ok (.istore 5, 2) := by decide +kernel
theorem dX6_lasts_36 : decode cX6_lasts 36 = .ok (.iload 5, 2) := by decide +kernel
theorem dX6_lasts_38 : decode cX6_lasts 38 = .ok (.aload_n 0, 1) := by decide +kernel
theorem dX6_lasts_39 : decode cX6_lasts 39 = .ok (.getfield 13, 3) := by decide +kernel
theorem dX6_lasts_42 : decode cX6_lasts 42 = .ok (.iconst 2, 1) := by decide +kernel
theorem dX6_lasts_43 : decode cX6_lasts 43 = .ok (.iaload, 1) := by decide +kernel
theorem dX6_lasts_44 : decode cX6_lasts 44 = .ok (.if_icmp .ge 51, 3) := by decide +kernel
theorem dX6_lasts_47 : decode cX6_lasts 47 = .ok (.aload_n 0, 1) := by decide +kernel
theorem dX6_lasts_48 : decode cX6_lasts 48 = .ok (.iload 5, 2) := by decide +kernel
theorem dX6_lasts_50 : decode cX6_lasts 50 = .ok (.invokevirtual 106, 3) := by decide +kernel
theorem dX6_lasts_53 : decode cX6_lasts 53 = .ok (.iload 4, 2) := by decide +kernel
theorem dX6_lasts_55 : decode cX6_lasts 55 = .ok (.if_icmp .le 8, 3) := by decide +kernel
theorem dX6_lasts_58 : decode cX6_lasts 58 = .ok (.iload 5, 2) := by decide +kernel
theorem dX6_lasts_60 : decode cX6_lasts 60 = .ok (.goto 4, 3) := by decide +kernel
theorem dX6_lasts_63 : decode cX6_lasts 63 = .ok (.iload_n 3, 1) := by decide +kernel
theorem dX6_lasts_64 : decode cX6_lasts 64 = .ok (.istore_n 3, 1) := by decide +kernel
theorem dX6_lasts_65 : decode cX6_lasts 65 = .ok (.aload_n 0, 1) := by decide +kernel
theorem dX6_lasts_66 : decode cX6_lasts 66 = .ok (.iload 5, 2) := by decide +kernel
theorem dX6_lasts_68 : decode cX6_lasts 68 = .ok (.invokevirtual 106, 3) := by decide +kernel
theorem dX6_lasts_71 : decode cX6_lasts 71 = .ok (.iload 4, 2) := by decide +kernel
theorem dX6_lasts_73 : decode cX6_lasts 73 = .ok (.if_icmp .le 12, 3) := by decide +kernel
theorem dX6_lasts_76 : decode cX6_lasts 76 = .ok (.aload_n 0, 1) := by decide +kernel
theorem dX6_lasts_77 : decode cX6_lasts 77 = .ok (.iload 5, 2) := by decide +kernel
theorem dX6_lasts_79 : decode cX6_lasts 79 = .ok (.invokevirtual 106, 3) := by decide +kernel
theorem dX6_lasts_82 : decode cX6_lasts 82 = .ok (.goto 5, 3) := by decide +kernel
theorem dX6_lasts_85 : decode cX6_lasts 85 = .ok (.iload 4, 2) := by decide +kernel
theorem dX6_lasts_87 : decode cX6_lasts 87 = .ok (.istore 4, 2) := by decide +kernel
theorem dX6_lasts_89 : decode cX6_lasts 89 = .ok (.iinc 5 1, 3) := by decide +kernel
theorem dX6_lasts_92 : decode cX6_lasts 92 = .ok (.goto (-56), 3) := by decide +kernel
theorem dX6_lasts_95 : decode cX6_lasts 95 = .ok (.aload_n 0, 1) := by decide +kernel
theorem dX6_lasts_96 : decode cX6_lasts 96 = .ok (.invokevirtual 109, 3) := by decide +kernel
theorem dX6_lasts_99 : decode cX6_lasts 99 = .ok (.iload_n 3, 1) := by decide +kernel
theorem dX6_lasts_100 : decode cX6_lasts 100 = .ok (.ireturn, 1) := by decide +kernel
theorem dX6_wentBy_0 : decode cX6_wentBy 0 = .ok (.aload_n 0, 1) := by decide +kernel
theorem dX6_wentBy_1 : decode cX6_wentBy 1 = .ok (.aload_n 0, 1) := by decide +kernel
theorem dX6_wentBy_2 : decode cX6_wentBy 2 = .ok (.iload_n 1, 1) := by decide +kernel
theorem dX6_wentBy_3 : decode cX6_wentBy 3 = .ok (.invokevirtual 144, 3) := by decide +kernel
theorem dX6_wentBy_6 : decode cX6_wentBy 6 = .ok (.iload_n 2, 1) := by decide +kernel
theorem dX6_wentBy_7 : decode cX6_wentBy 7 = .ok (.invokevirtual 163, 3) := by decide +kernel
theorem dX6_wentBy_10 : decode cX6_wentBy 10 = .ok (.istore 4, 2) := by decide +kernel
theorem dX6_wentBy_12 : decode cX6_wentBy 12 = .ok (.iload 4, 2) := by decide +kernel
theorem dX6_wentBy_14 : decode cX6_wentBy 14 = .ok (.ifCond .eq 10, 3) := by decide +kernel
theorem dX6_wentBy_17 : decode cX6_wentBy 17 = .ok (.aload_n 0, 1) := by decide +kernel
theorem dX6_wentBy_18 : decode cX6_wentBy 18 = .ok (.iload 4, 2) := by decide +kernel
theorem dX6_wentBy_20 : decode cX6_wentBy 20 = .ok (.invokevirtual 120, 3) := by decide +kernel
theorem dX6_wentBy_23 : decode cX6_wentBy 23 = .ok (.ireturn, 1) := by decide +kernel
theorem dX6_wentBy_24 : decode cX6_wentBy 24 = .ok (.aload_n 0, 1) := by decide +kernel
theorem dX6_wentBy_25 : decode cX6_wentBy 25 = .ok (.invokevirtual 170, 3) := by decide +kernel
theorem dX6_wentBy_28 : decode cX6_wentBy 28 = .ok (.aload_n 0, 1) := by decide +kernel
theorem dX6_wentBy_29 : decode cX6_wentBy 29 = .ok (.iload_n 2, 1) := by decide +kernel
theorem dX6_wentBy_30 : decode cX6_wentBy 30 = .ok (.invokevirtual 103, 3) := by decide +kernel
theorem dX6_wentBy_33 : decode cX6_wentBy 33 = .ok (.aload_n 0, 1) := by decide +kernel
theorem dX6_wentBy_34 : decode cX6_wentBy 34 = .ok (.iload_n 1, 1) := by decide +kernel
theorem dX6_wentBy_35 : decode cX6_wentBy 35 = .ok (.iconst 3, 1) := by decide +kernel
theorem dX6_wentBy_36 : decode cX6_wentBy 36 = .ok (.invokevirtual 61, 3) := by decide +kernel
theorem dX6_wentBy_39 : decode cX6_wentBy 39 = .ok (.ifCond .ge 8, 3) := by decide +kernel
theorem dX6_wentBy_42 : decode cX6_wentBy 42 = .ok (.bipush (-9), 2) := by decide +kernel
theorem dX6_wentBy_44 : decode cX6_wentBy 44 = .ok (.goto 22, 3) := by decide +kernel
theorem dX6_wentBy_47 : decode cX6_wentBy 47 = .ok (.iload_n 3, 1) := by decide +kernel
theorem dX6_wentBy_48 : decode cX6_wentBy 48 = .ok (.ifCond .eq 12, 3) := by decide +kernel
theorem dX6_wentBy_51 : decode cX6_wentBy 51 = .ok (.aload_n 0, 1) := by decide +kernel
theorem dX6_wentBy_52 : decode cX6_wentBy 52 = .ok (.getfield 34, 3) := by decide +kernel
theorem dX6_wentBy_55 : decode cX6_wentBy 55 = .ok (.iload_n 1, 1) := by decide +kernel
theorem dX6_wentBy_56 : decode cX6_wentBy 56 = .ok (.iaload, 1) := by decide +kernel
theorem dX6_wentBy_57 : decode cX6_wentBy 57 = .ok (.goto 9, 3) := by decide +kernel
theorem dX6_wentBy_60 : decode cX6_wentBy 60 = .ok (.aload_n 0, 1) := by decide +kernel
theorem dX6_wentBy_61 : decode cX6_wentBy 61 = .ok (.getfield 31, 3) := by decide +kernel
theorem dX6_wentBy_64 : decode cX6_wentBy 64 = .ok (.iload_n 1, 1) := by decide +kernel
theorem dX6_wentBy_65 : decode cX6_wentBy 65 = .ok (.iaload, 1) := by decide +kernel
theorem dX6_wentBy_66 : decode cX6_wentBy 66 = .ok (.istore 5, 2) := by decide +kernel
theorem dX6_wentBy_68 : decode cX6_wentBy 68 = .ok (.aload_n 0, 1) := by decide +kernel
theorem dX6_wentBy_69 : decode cX6_wentBy 69 = .ok (.invokevirtual 109, 3) := by decide +kernel
theorem dX6_wentBy_72 : decode cX6_wentBy 72 = .ok (.iload 5, 2) := by decide +kernel
theorem dX6_wentBy_74 : decode cX6_wentBy 74 = .ok (.ireturn, 1) := by decide +kernel
theorem dX6_from_0 : decode cX6_from 0 = .ok (.aload_n 0, 1) := by decide +kernel
theorem dX6_from_1 : decode cX6_from 1 = .ok (.iload_n 1, 1) := by decide +kernel
theorem dX6_from_2 : decode cX6_from 2 = .ok (.iload_n 2, 1) := by decide +kernel
theorem dX6_from_3 : decode cX6_from 3 = .ok (.iconst 0, 1) := by decide +kernel
theorem dX6_from_4 : decode cX6_from 4 = .ok (.invokevirtual 173, 3) := by decide +kernel
theorem dX6_from_7 : decode cX6_from 7 = .ok (.ireturn, 1) := by decide +kernel
theorem dX6_first_0 : decode cX6_first 0 = .ok (.aload_n 0, 1) := by decide +kernel
theorem dX6_first_1 : decode cX6_first 1 = .ok (.iload_n 1, 1) := by decide +kernel
theorem dX6_first_2 : decode cX6_first 2 = .ok (.iload_n 2, 1) := by decide +kernel
theorem dX6_first_3 : decode cX6_first 3 = .ok (.iconst 1, 1) := by decide +kernel
theorem dX6_first_4 : decode cX6_first 4 = .ok (.invokevirtual 173, 3) := by decide +kernel
theorem dX6_first_7 : decode cX6_first 7 = .ok (.ireturn, 1) := by decide +kernel
theorem dX6_ridOf_0 : decode cX6_ridOf 0 = .ok (.bipush (-9), 2) := by decide +kernel
theorem dX6_ridOf_2 : decode cX6_ridOf 2 = .ok (.istore_n 2, 1) := by decide +kernel
theorem dX6_ridOf_3 : decode cX6_ridOf 3 = .ok (.iconst 0, 1) := by decide +kernel
theorem dX6_ridOf_4 : decode cX6_ridOf 4 = .ok (.istore_n 3, 1) := by decide +kernel
theorem dX6_ridOf_5 : decode cX6_ridOf 5 = .ok (.iload_n 3, 1) := by decide +kernel
theorem dX6_ridOf_6 : decode cX6_ridOf 6 = .ok (.bipush 60, 2) := by decide +kernel
theorem dX6_ridOf_8 : decode cX6_ridOf 8 = .ok (.if_icmp .gt 34, 3) := by decide +kernel
theorem dX6_ridOf_11 : decode cX6_ridOf 11 = .ok (.iload_n 2, 1) := by decide +kernel
theorem dX6_ridOf_12 : decode cX6_ridOf 12 = .ok (.ifCond .ge 30, 3) := by decide +kernel
theorem dX6_ridOf_15 : decode cX6_ridOf 15 = .ok (.aload_n 0, 1) := by decide +kernel
theorem dX6_ridOf_16 : decode cX6_ridOf 16 = .ok (.iload_n 1, 1) := by decide +kernel
theorem dX6_ridOf_17 : decode cX6_ridOf 17 = .ok (.iconst 3, 1) := by decide +kernel
theorem dX6_ridOf_18 : decode cX6_ridOf 18 = .ok (.invokevirtual 61, 3) := by decide +kernel
theorem dX6_ridOf_21 : decode cX6_ridOf 21 = .ok (.ifCond .ge 7, 3) := by decide +kernel
theorem dX6_ridOf_24 : decode cX6_ridOf 24 = .ok (.iload_n 3, 1) := by decide +kernel
theorem dX6_ridOf_25 : decode cX6_ridOf 25 = .ok (.goto 5, 3) := by decide +kernel
theorem dX6_ridOf_28 : decode cX6_ridOf 28 = .ok (.bipush (-9), 2) := by decide +kernel
theorem dX6_ridOf_30 : decode cX6_ridOf 30 = .ok (.istore_n 2, 1) := by decide +kernel
theorem dX6_ridOf_31 : decode cX6_ridOf 31 = .ok (.aload_n 0, 1) := by decide +kernel
theorem dX6_ridOf_32 : decode cX6_ridOf 32 = .ok (.invokevirtual 99, 3) := by decide +kernel
theorem dX6_ridOf_35 : decode cX6_ridOf 35 = .ok (.pop, 1) := by decide +kernel
theorem dX6_ridOf_36 : decode cX6_ridOf 36 = .ok (.iinc 3 1, 3) := by decide +kernel
theorem dX6_ridOf_39 : decode cX6_ridOf 39 = .ok (.goto (-34), 3) := by decide +kernel
theorem dX6_ridOf_42 : decode cX6_ridOf 42 = .ok (.aload_n 0, 1) := by decide +kernel
theorem dX6_ridOf_43 : decode cX6_ridOf 43 = .ok (.invokevirtual 109, 3) := by decide +kernel
theorem dX6_ridOf_46 : decode cX6_ridOf 46 = .ok (.iload_n 2, 1) := by decide +kernel
theorem dX6_ridOf_47 : decode cX6_ridOf 47 = .ok (.ireturn, 1) := by decide +kernel
theorem dX6_rid_0 : decode cX6_rid 0 = .ok (.aload_n 0, 1) := by decide +kernel
theorem dX6_rid_1 : decode cX6_rid 1 = .ok (.iload_n 1, 1) := by decide +kernel
theorem dX6_rid_2 : decode cX6_rid 2 = .ok (.invokevirtual 144, 3) := by decide +kernel
theorem dX6_rid_5 : decode cX6_rid 5 = .ok (.ifCond .ne 7, 3) := by decide +kernel
theorem dX6_rid_8 : decode cX6_rid 8 = .ok (.iconst (-1), 1) := by decide +kernel
theorem dX6_rid_9 : decode cX6_rid 9 = .ok (.goto 31, 3) := by decide +kernel
theorem dX6_rid_12 : decode cX6_rid 12 = .ok (.iload_n 2, 1) := by decide +kernel
theorem dX6_rid_13 : decode cX6_rid 13 = .ok (.iconst 2, 1) := by decide +kernel
theorem dX6_rid_14 : decode cX6_rid 14 = .ok (.invokestatic 53, 3) := by decide +kernel
theorem dX6_rid_17 : decode cX6_rid 17 = .ok (.ifCond .ne 8, 3) := by decide +kernel
theorem dX6_rid_20 : decode cX6_rid 20 = .ok (.bipush (-2), 2) := by decide +kernel
theorem dX6_rid_22 : decode cX6_rid 22 = .ok (.goto 18, 3) := by decide +kernel
theorem dX6_rid_25 : decode cX6_rid 25 = .ok (.aload_n 0, 1) := by decide +kernel
theorem dX6_rid_26 : decode cX6_rid 26 = .ok (.iload_n 1, 1) := by decide +kernel
theorem dX6_rid_27 : decode cX6_rid 27 = .ok (.iconst 3, 1) := by decide +kernel
theorem dX6_rid_28 : decode cX6_rid 28 = .ok (.invokevirtual 61, 3) := by decide +kernel
theorem dX6_rid_31 : decode cX6_rid 31 = .ok (.ifCond .ge 8, 3) := by decide +kernel
theorem dX6_rid_34 : decode cX6_rid 34 = .ok (.bipush (-3), 2) := by decide +kernel
theorem dX6_rid_36 : decode cX6_rid 36 = .ok (.goto 4, 3) := by decide +kernel
theorem dX6_rid_39 : decode cX6_rid 39 = .ok (.iconst 0, 1) := by decide +kernel
theorem dX6_rid_40 : decode cX6_rid 40 = .ok (.istore_n 3, 1) := by decide +kernel
theorem dX6_rid_41 : decode cX6_rid 41 = .ok (.iload_n 3, 1) := by decide +kernel
theorem dX6_rid_42 : decode cX6_rid 42 = .ok (.ifCond .eq 9, 3) := by decide +kernel
theorem dX6_rid_45 : decode cX6_rid 45 = .ok (.aload_n 0, 1) := by decide +kernel
theorem dX6_rid_46 : decode cX6_rid 46 = .ok (.iload_n 3, 1) := by decide +kernel
theorem dX6_rid_47 : decode cX6_rid 47 = .ok (.invokevirtual 120, 3) := by decide +kernel
theorem dX6_rid_50 : decode cX6_rid 50 = .ok (.ireturn, 1) := by decide +kernel
theorem dX6_rid_51 : decode cX6_rid 51 = .ok (.aload_n 0, 1) := by decide +kernel
theorem dX6_rid_52 : decode cX6_rid 52 = .ok (.invokevirtual 96, 3) := by decide +kernel
theorem dX6_rid_55 : decode cX6_rid 55 = .ok (.bipush (-9), 2) := by decide +kernel
theorem dX6_rid_57 : decode cX6_rid 57 = .ok (.istore 4, 2) := by decide +kernel
theorem dX6_rid_59 : decode cX6_rid 59 = .ok (.bipush (-9), 2) := by decide +kernel
theorem dX6_rid_61 : decode cX6_rid 61 = .ok (.istore 5, 2) := by decide +kernel
theorem dX6_rid_63 : decode cX6_rid 63 = .ok (.iconst 0, 1) := by decide +kernel
theorem dX6_rid_64 : decode cX6_rid 64 = .ok (.istore 6, 2) := by decide +kernel
theorem dX6_rid_66 : decode cX6_rid 66 = .ok (.iload 6, 2) := by decide +kernel
theorem dX6_rid_68 : decode cX6_rid 68 = .ok (.iconst 4, 1) := by decide +kernel
theorem dX6_rid_69 : decode cX6_rid 69 = .ok (.if_icmp .ge 51, 3) := by decide +kernel
theorem dX6_rid_72 : decode cX6_rid 72 = .ok (.aload_n 0, 1) := by decide +kernel
theorem dX6_rid_73 : decode cX6_rid 73 = .ok (.iload_n 1, 1) := by decide +kernel
theorem dX6_rid_74 : decode cX6_rid 74 = .ok (.iload 6, 2) := by decide +kernel
theorem dX6_rid_76 : decode cX6_rid 76 = .ok (.invokevirtual 160, 3) := by decide +kernel
theorem dX6_rid_79 : decode cX6_rid 79 = .ok (.aload_n 0, 1) := by decide +kernel
theorem dX6_rid_80 : decode cX6_rid 80 = .ok (.iload_n 1, 1) := by decide +kernel
theorem dX6_rid_81 : decode cX6_rid 81 = .ok (.invokevirtual 177, 3) := by decide +kernel
theorem dX6_rid_84 : decode cX6_rid 84 = .ok (.istore 7, 2) := by decide +kernel
theorem dX6_rid_86 : decode cX6_rid 86 = .ok (.iload 7, 2) := by decide +kernel
theorem dX6_rid_88 : decode cX6_rid 88 = .ok (.ifCond .lt 26, 3) := by decide +kernel
theorem dX6_rid_91 : decode cX6_rid 91 = .ok (.iload 5, 2) := by decide +kernel
theorem dX6_rid_93 : decode cX6_rid 93 = .ok (.ifCond .lt 13, 3) := by decide +kernel
theorem dX6_rid_96 : decode cX6_rid 96 = .ok (.iload 7, 2) := by decide +kernel
theorem dX6_rid_98 : decode cX6_rid 98 = .ok (.iload 5, 2) := by decide +kernel
theorem dX6_rid_100 : decode cX6_rid 100 = .ok (.if_icmp .lt 6, 3) := by decide +kernel
theorem dX6_rid_103 : decode cX6_rid 103 = .ok (.goto 11, 3) := by decide +kernel
theorem dX6_rid_106 : decode cX6_rid 106 = .ok (.iload 6, 2) := by decide +kernel
theorem dX6_rid_108 : decode cX6_rid 108 = .ok (.istore 4, 2) := by decide +kernel
theorem dX6_rid_110 : decode cX6_rid 110 = .ok (.iload 7, 2) := by decide +kernel
theorem dX6_rid_112 : decode cX6_rid 112 = .ok (.istore 5, 2) := by decide +kernel
theorem dX6_rid_114 : decode cX6_rid 114 = .ok (.iinc 6 1, 3) := by decide +kernel
theorem dX6_rid_117 : decode cX6_rid 117 = .ok (.goto (-51), 3) := by decide +kernel
theorem dX6_rid_120 : decode cX6_rid 120 = .ok (.iload_n 2, 1) := by decide +kernel
theorem dX6_rid_121 : decode cX6_rid 121 = .ok (.ifCond .ne 8, 3) := by decide +kernel
theorem dX6_rid_124 : decode cX6_rid 124 = .ok (.iload 4, 2) := by decide +kernel
theorem dX6_rid_126 : decode cX6_rid 126 = .ok (.goto 5, 3) := by decide +kernel
theorem dX6_rid_129 : decode cX6_rid 129 = .ok (.iload 5, 2) := by decide +kernel
theorem dX6_rid_131 : decode cX6_rid 131 = .ok (.ireturn, 1) := by decide +kernel
theorem dX6_instead_0 : decode cX6_instead 0 = .ok (.aload_n 0, 1) := by decide +kernel
theorem dX6_instead_1 : decode cX6_instead 1 = .ok (.iload_n 1, 1) := by decide +kernel
theorem dX6_instead_2 : decode cX6_instead 2 = .ok (.invokevirtual 144, 3) := by decide +kernel
theorem dX6_instead_5 : decode cX6_instead 5 = .ok (.ifCond .ne 7, 3) := by decide +kernel
theorem dX6_instead_8 : decode cX6_instead 8 = .ok (.iconst (-1), 1) := by decide +kernel
theorem dX6_instead_9 : decode cX6_instead 9 = .ok (.goto 18, 3) := by decide +kernel
theorem dX6_instead_12 : decode cX6_instead 12 = .ok (.aload_n 0, 1) := by decide +kernel
theorem dX6_instead_13 : decode cX6_instead 13 = .ok (.iload_n 1, 1) := by decide +kernel
theorem dX6_instead_14 : decode cX6_instead 14 = .ok (.iconst 3, 1) := by decide +kernel
theorem dX6_instead_15 : decode cX6_instead 15 = .ok (.invokevirtual 61, 3) := by decide +kernel
theorem dX6_instead_18 : decode cX6_instead 18 = .ok (.ifCond .ge 8, 3) := by decide +kernel
theorem dX6_instead_21 : decode cX6_instead 21 = .ok (.bipush (-3), 2) := by decide +kernel
theorem dX6_instead_23 : decode cX6_instead 23 = .ok (.goto 4, 3) := by decide +kernel
theorem dX6_instead_26 : decode cX6_instead 26 = .ok (.iconst 0, 1) := by decide +kernel
theorem dX6_instead_27 : decode cX6_instead 27 = .ok (.istore_n 2, 1) := by decide +kernel
theorem dX6_instead_28 : decode cX6_instead 28 = .ok (.iload_n 2, 1) := by decide +kernel
theorem dX6_instead_29 : decode cX6_instead 29 = .ok (.ifCond .eq 9, 3) := by decide +kernel
theorem dX6_instead_32 : decode cX6_instead 32 = .ok (.aload_n 0, 1) := by decide +kernel
theorem dX6_instead_33 : decode cX6_instead 33 = .ok (.iload_n 2, 1) := by decide +kernel
theorem dX6_instead_34 : decode cX6_instead 34 = .ok (.invokevirtual 120, 3) := by decide +kernel
theorem dX6_instead_37 : decode cX6_instead 37 = .ok (.ireturn, 1) := by decide +kernel
theorem dX6_instead_38 : decode cX6_instead 38 = .ok (.aload_n 0, 1) := by decide +kernel
theorem dX6_instead_39 : decode cX6_instead 39 = .ok (.invokevirtual 96, 3) := by decide +kernel
theorem dX6_instead_42 : decode cX6_instead 42 = .ok (.aload_n 0, 1) := by decide +kernel
theorem dX6_instead_43 : decode cX6_instead 43 = .ok (.iload_n 1, 1) := by decide +kernel
theorem dX6_instead_44 : decode cX6_instead 44 = .ok (.iconst 3, 1) := by decide +kernel
theorem dX6_instead_45 : decode cX6_instead 45 = .ok (.invokevirtual 61, 3) := by decide +kernel
theorem dX6_instead_48 : decode cX6_instead 48 = .ok (.istore_n 3, 1) := by decide +kernel
theorem dX6_instead_49 : decode cX6_instead 49 = .ok (.aload_n 0, 1) := by decide +kernel
theorem dX6_instead_50 : decode cX6_instead 50 = .ok (.iload_n 1, 1) := by decide +kernel
theorem dX6_instead_51 : decode cX6_instead 51 = .ok (.invokevirtual 177, 3) := by decide +kernel
theorem dX6_instead_54 : decode cX6_instead 54 = .ok (.istore 4, 2) := by decide +kernel
theorem dX6_instead_56 : decode cX6_instead 56 = .ok (.bipush (-9), 2) := by decide +kernel
theorem dX6_instead_58 : decode cX6_instead 58 = .ok (.istore 5, 2) := by decide +kernel
theorem dX6_instead_60 : decode cX6_instead 60 = .ok (.iconst 0, 1) := by decide +kernel
theorem dX6_instead_61 : decode cX6_instead 61 = .ok (.istore 6, 2) := by decide +kernel
theorem dX6_instead_63 : decode cX6_instead 63 = .ok (.iload 6, 2) := by decide +kernel
theorem dX6_instead_65 : decode cX6_instead 65 = .ok (.aload_n 0, 1) := by decide +kernel
theorem dX6_instead_66 : decode cX6_instead 66 = .ok (.getfield 13, 3) := by decide +kernel
theorem dX6_instead_69 : decode cX6_instead 69 = .ok (.iconst 2, 1) := by decide +kernel
theorem dX6_instead_70 : decode cX6_instead 70 = .ok (.iaload, 1) := by decide +kernel
theorem dX6_instead_71 : decode cX6_instead 71 = .ok (.if_icmp .ge 60, 3) := by decide +kernel
theorem dX6_instead_74 : decode cX6_instead 74 = .ok (.iload 6, 2) := by decide +kernel
theorem dX6_instead_76 : decode cX6_instead 76 = .ok (.iload_n 3, 1) := by decide +kernel
theorem dX6_instead_77 : decode cX6_instead 77 = .ok (.if_icmp .ne 6, 3) := by decide +kernel
theorem dX6_instead_80 : decode cX6_instead 80 = .ok (.goto 45, 3) := by decide +kernel
theorem dX6_instead_83 : decode cX6_instead 83 = .ok (.aload_n 0, 1) := by decide +kernel
theorem dX6_instead_84 : decode cX6_instead 84 = .ok (.iload_n 1, 1) := by decide +kernel
theorem dX6_instead_85 : decode cX6_instead 85 = .ok (.iload 6, 2) := by decide +kernel
theorem dX6_instead_87 : decode cX6_instead 87 = .ok (.invokevirtual 81, 3) := by decide +kernel
theorem dX6_instead_90 : decode cX6_instead 90 = .ok (.aload_n 0, 1) := by decide +kernel
theorem dX6_instead_91 : decode cX6_instead 91 = .ok (.iload_n 1, 1) := by decide +kernel
theorem dX6_instead_92 : decode cX6_instead 92 = .ok (.invokevirtual 177, 3) := by decide +kernel
theorem dX6_instead_95 : decode cX6_instead 95 = .ok (.istore 7, 2) := by decide +kernel
theorem dX6_instead_97 : decode cX6_instead 97 = .ok (.iload 7, 2) := by decide +kernel
theorem dX6_instead_99 : decode cX6_instead 99 = .ok (.ifCond .lt 26, 3) := by decide +kernel
theorem dX6_instead_102 : decode cX6_instead 102 = .ok (.iload 4, 2) := by decide +kernel
theorem dX6_instead_104 : decode cX6_instead 104 = .ok (.ifCond .lt 13, 3) := by decide +kernel
theorem dX6_instead_107 : decode cX6_instead 107 = .ok (.iload 7, 2) := by decide +kernel
theorem dX6_instead_109 : decode cX6_instead 109 = .ok (.iload 4, 2) := by decide +kernel
theorem dX6_instead_111 : decode cX6_instead 111 = .ok (.if_icmp .lt 6, 3) := by decide +kernel
theorem dX6_instead_114 : decode cX6_instead 114 = .ok (.goto 11, 3) := by decide +kernel
theorem dX6_instead_117 : decode cX6_instead 117 = .ok (.iload 6, 2) := by decide +kernel
theorem dX6_instead_119 : decode cX6_instead 119 = .ok (.istore 5, 2) := by decide +kernel
theorem dX6_instead_121 : decode cX6_instead 121 = .ok (.iload 7, 2) := by decide +kernel
theorem dX6_instead_123 : decode cX6_instead 123 = .ok (.istore 4, 2) := by decide +kernel
theorem dX6_instead_125 : decode cX6_instead 125 = .ok (.iinc 6 1, 3) := by decide +kernel
theorem dX6_instead_128 : decode cX6_instead 128 = .ok (.goto (-65), 3) := by decide +kernel
theorem dX6_instead_131 : decode cX6_instead 131 = .ok (.iload 5, 2) := by decide +kernel
theorem dX6_instead_133 : decode cX6_instead 133 = .ok (.ireturn, 1) := by decide +kernel
theorem dX6_shut_0 : decode cX6_shut 0 = .ok (.iload_n 1, 1) := by decide +kernel
theorem dX6_shut_1 : decode cX6_shut 1 = .ok (.iconst 0, 1) := by decide +kernel
theorem dX6_shut_2 : decode cX6_shut 2 = .ok (.bipush 60, 2) := by decide +kernel
theorem dX6_shut_4 : decode cX6_shut 4 = .ok (.invokestatic 112, 3) := by decide +kernel
theorem dX6_shut_7 : decode cX6_shut 7 = .ok (.istore_n 2, 1) := by decide +kernel
theorem dX6_shut_8 : decode cX6_shut 8 = .ok (.iload_n 2, 1) := by decide +kernel
theorem dX6_shut_9 : decode cX6_shut 9 = .ok (.ifCond .eq 9, 3) := by decide +kernel
theorem dX6_shut_12 : decode cX6_shut 12 = .ok (.aload_n 0, 1) := by decide +kernel
theorem dX6_shut_13 : decode cX6_shut 13 = .ok (.iload_n 2, 1) := by decide +kernel
theorem dX6_shut_14 : decode cX6_shut 14 = .ok (.invokevirtual 120, 3) := by decide +kernel
theorem dX6_shut_17 : decode cX6_shut 17 = .ok (.ireturn, 1) := by decide +kernel
theorem dX6_shut_18 : decode cX6_shut 18 = .ok (.aload_n 0, 1) := by decide +kernel
theorem dX6_shut_19 : decode cX6_shut 19 = .ok (.invokevirtual 96, 3) := by decide +kernel
theorem dX6_shut_22 : decode cX6_shut 22 = .ok (.aload_n 0, 1) := by decide +kernel
theorem dX6_shut_23 : decode cX6_shut 23 = .ok (.iconst (-1), 1) := by decide +kernel
theorem dX6_shut_24 : decode cX6_shut 24 = .ok (.iload_n 1, 1) := by decide +kernel
theorem dX6_shut_25 : decode cX6_shut 25 = .ok (.invokevirtual 167, 3) := by decide +kernel
theorem dX6_shut_28 : decode cX6_shut 28 = .ok (.istore_n 3, 1) := by decide +kernel
theorem dX6_shut_29 : decode cX6_shut 29 = .ok (.bipush (-9), 2) := by decide +kernel
theorem dX6_shut_31 : decode cX6_shut 31 = .ok (.istore 4, 2) := by decide +kernel
theorem dX6_shut_33 : decode cX6_shut 33 = .ok (.iconst 0, 1) := by decide +kernel
theorem dX6_shut_34 : decode cX6_shut 34 = .ok (.istore 5, 2) := by decide +kernel
theorem dX6_shut_36 : decode cX6_shut 36 = .ok (.iload 5, 2) := by decide +kernel
theorem dX6_shut_38 : decode cX6_shut 38 = .ok (.aload_n 0, 1) := by decide +kernel
theorem dX6_shut_39 : decode cX6_shut 39 = .ok (.getfield 13, 3) := by decide +kernel
theorem dX6_shut_42 : decode cX6_shut 42 = .ok (.iconst 0, 1) := by decide +kernel
theorem dX6_shut_43 : decode cX6_shut 43 = .ok (.iaload, 1) := by decide +kernel
theorem dX6_shut_44 : decode cX6_shut 44 = .ok (.if_icmp .ge 77, 3) := by decide +kernel
theorem dX6_shut_47 : decode cX6_shut 47 = .ok (.aload_n 0, 1) := by decide +kernel
theorem dX6_shut_48 : decode cX6_shut 48 = .ok (.getfield 13, 3) := by decide +kernel
theorem dX6_shut_51 : decode cX6_shut 51 = .ok (.iconst 1, 1) := by decide +kernel
theorem dX6_shut_52 : decode cX6_shut 52 = .ok (.iaload, 1) := by decide +kernel
theorem dX6_shut_53 : decode cX6_shut 53 = .ok (.iload 5, 2) := by decide +kernel
theorem dX6_shut_55 : decode cX6_shut 55 = .ok (.ishr, 1) := by decide +kernel
theorem dX6_shut_56 : decode cX6_shut 56 = .ok (.iconst 1, 1) := by decide +kernel
theorem dX6_shut_57 : decode cX6_shut 57 = .ok (.iand, 1) := by decide +kernel
theorem dX6_shut_58 : decode cX6_shut 58 = .ok (.ifCond .ne 6, 3) := by decide +kernel
theorem dX6_shut_61 : decode cX6_shut 61 = .ok (.goto 54, 3) := by decide +kernel
theorem dX6_shut_64 : decode cX6_shut 64 = .ok (.aload_n 0, 1) := by decide +kernel
theorem dX6_shut_65 : decode cX6_shut 65 = .ok (.getfield 13, 3) := by decide +kernel
theorem dX6_shut_68 : decode cX6_shut 68 = .ok (.iconst 1, 1) := by decide +kernel
theorem dX6_shut_69 : decode cX6_shut 69 = .ok (.dup2, 1) := by decide +kernel
theorem dX6_shut_70 : decode cX6_shut 70 = .ok (.iaload, 1) := by decide +kernel
theorem dX6_shut_71 : decode cX6_shut 71 = .ok (.iconst 1, 1) := by decide +kernel
theorem dX6_shut_72 : decode cX6_shut 72 = .ok (.iload 5, 2) := by decide +kernel
theorem dX6_shut_74 : decode cX6_shut 74 = .ok (.ishl, 1) := by decide +kernel
theorem dX6_shut_75 : decode cX6_shut 75 = .ok (.iconst (-1), 1) := by decide +kernel
theorem dX6_shut_76 : decode cX6_shut 76 = .ok (.ixor, 1) := by decide +kernel
theorem dX6_shut_77 : decode cX6_shut 77 = .ok (.iand, 1) := by decide +kernel
theorem dX6_shut_78 : decode cX6_shut 78 = .ok (.iastore, 1) := by decide +kernel
theorem dX6_shut_79 : decode cX6_shut 79 = .ok (.aload_n 0, 1) := by decide +kernel
theorem dX6_shut_80 : decode cX6_shut 80 = .ok (.iconst (-1), 1) := by decide +kernel
theorem dX6_shut_81 : decode cX6_shut 81 = .ok (.iload_n 1, 1) := by decide +kernel
theorem dX6_shut_82 : decode cX6_shut 82 = .ok (.invokevirtual 167, 3) := by decide +kernel
theorem dX6_shut_85 : decode cX6_shut 85 = .ok (.istore 6, 2) := by decide +kernel
theorem dX6_shut_87 : decode cX6_shut 87 = .ok (.iload 6, 2) := by decide +kernel
theorem dX6_shut_89 : decode cX6_shut 89 = .ok (.iload_n 3, 1) := by decide +kernel
theorem dX6_shut_90 : decode cX6_shut 90 = .ok (.if_icmp .ge 8, 3) := by decide +kernel
theorem dX6_shut_93 : decode cX6_shut 93 = .ok (.iload 5, 2) := by decide +kernel
theorem dX6_shut_95 : decode cX6_shut 95 = .ok (.goto 5, 3) := by decide +kernel
theorem dX6_shut_98 : decode cX6_shut 98 = .ok (.iload 4, 2) := by decide +kernel
theorem dX6_shut_100 : decode cX6_shut 100 = .ok (.istore 4, 2) := by decide +kernel
theorem dX6_shut_102 : decode cX6_shut 102 = .ok (.iload 6, 2) := by decide +kernel
theorem dX6_shut_104 : decode cX6_shut 104 = .ok (.iload_n 3, 1) := by decide +kernel
theorem dX6_shut_105 : decode cX6_shut 105 = .ok (.if_icmp .ge 8, 3) := by decide +kernel
theorem dX6_shut_108 : decode cX6_shut 108 = .ok (.iload 6, 2) := by decide +kernel
theorem dX6_shut_110 : decode cX6_shut 110 = .ok (.goto 4, 3) := by decide +kernel
theorem dX6_shut_113 : decode cX6_shut 113 = .ok (.iload_n 3, 1) := by decide +kernel
theorem dX6_shut_114 : decode cX6_shut 114 = .ok (.istore_n 3, 1) := by decide +kernel
theorem dX6_shut_115 : decode cX6_shut 115 = .ok (.iinc 5 1, 3) := by decide +kernel
theorem dX6_shut_118 : decode cX6_shut 118 = .ok (.goto (-82), 3) := by decide +kernel
theorem dX6_shut_121 : decode cX6_shut 121 = .ok (.iload 4, 2) := by decide +kernel
theorem dX6_shut_123 : decode cX6_shut 123 = .ok (.ireturn, 1) := by decide +kernel
theorem dX6_seats_0 : decode cX6_seats 0 = .ok (.iload_n 1, 1) := by decide +kernel
theorem dX6_seats_1 : decode cX6_seats 1 = .ok (.iconst 0, 1) := by decide +kernel
theorem dX6_seats_2 : decode cX6_seats 2 = .ok (.bipush 60, 2) := by decide +kernel
theorem dX6_seats_4 : decode cX6_seats 4 = .ok (.invokestatic 112, 3) := by decide +kernel
theorem dX6_seats_7 : decode cX6_seats 7 = .ok (.istore_n 2, 1) := by decide +kernel
theorem dX6_seats_8 : decode cX6_seats 8 = .ok (.iload_n 2, 1) := by decide +kernel
theorem dX6_seats_9 : decode cX6_seats 9 = .ok (.ifCond .eq 9, 3) := by decide +kernel
theorem dX6_seats_12 : decode cX6_seats 12 = .ok (.aload_n 0, 1) := by decide +kernel
theorem dX6_seats_13 : decode cX6_seats 13 = .ok (.iload_n 2, 1) := by decide +kernel
theorem dX6_seats_14 : decode cX6_seats 14 = .ok (.invokevirtual 120, 3) := by decide +kernel
theorem dX6_seats_17 : decode cX6_seats 17 = .ok (.ireturn, 1) := by decide +kernel
theorem dX6_seats_18 : decode cX6_seats 18 = .ok (.aload_n 0, 1) := by decide +kernel
theorem dX6_seats_19 : decode cX6_seats 19 = .ok (.invokevirtual 96, 3) := by decide +kernel
theorem dX6_seats_22 : decode cX6_seats 22 = .ok (.aload_n 0, 1) := by decide +kernel
theorem dX6_seats_23 : decode cX6_seats 23 = .ok (.iconst (-1), 1) := by decide +kernel
theorem dX6_seats_24 : decode cX6_seats 24 = .ok (.iload_n 1, 1) := by decide +kernel
theorem dX6_seats_25 : decode cX6_seats 25 = .ok (.invokevirtual 167, 3) := by decide +kernel
theorem dX6_seats_28 : decode cX6_seats 28 = .ok (.istore_n 3, 1) := by decide +kernel
theorem dX6_seats_29 : decode cX6_seats 29 = .ok (.bipush (-9), 2) := by decide +kernel
theorem dX6_seats_31 : decode cX6_seats 31 = .ok (.istore 4, 2) := by decide +kernel
theorem dX6_seats_33 : decode cX6_seats 33 = .ok (.iconst 0, 1) := by decide +kernel
theorem dX6_seats_34 : decode cX6_seats 34 = .ok (.istore 5, 2) := by decide +kernel
theorem dX6_seats_36 : decode cX6_seats 36 = .ok (.iload 5, 2) := by decide +kernel
theorem dX6_seats_38 : decode cX6_seats 38 = .ok (.aload_n 0, 1) := by decide +kernel
theorem dX6_seats_39 : decode cX6_seats 39 = .ok (.getfield 13, 3) := by decide +kernel
theorem dX6_seats_42 : decode cX6_seats 42 = .ok (.iconst 3, 1) := by decide +kernel
theorem dX6_seats_43 : decode cX6_seats 43 = .ok (.iaload, 1) := by decide +kernel
theorem dX6_seats_44 : decode cX6_seats 44 = .ok (.if_icmp .ge 106, 3) := by decide +kernel
theorem dX6_seats_47 : decode cX6_seats 47 = .ok (.iload 5, 2) := by decide +kernel
theorem dX6_seats_49 : decode cX6_seats 49 = .ok (.iconst 1, 1) := by decide +kernel
theorem dX6_seats_50 : decode cX6_seats 50 = .ok (.iadd, 1) := by decide +kernel
theorem dX6_seats_51 : decode cX6_seats 51 = .ok (.istore 6, 2) := by decide +kernel
theorem dX6_seats_53 : decode cX6_seats 53 = .ok (.iload 6, 2) := by decide +kernel
theorem dX6_seats_55 : decode cX6_seats 55 = .ok (.aload_n 0, 1) := by decide +kernel
theorem dX6_seats_56 : decode cX6_seats 56 = .ok (.getfield 13, 3) := by decide +kernel
theorem dX6_seats_59 : decode cX6_seats 59 = .ok (.iconst 3, 1) := by decide +kernel
theorem dX6_seats_60 : decode cX6_seats 60 = .ok (.iaload, 1) := by decide +kernel
theorem dX6_seats_61 : decode cX6_seats 61 = .ok (.if_icmp .ge 83, 3) := by decide +kernel
theorem dX6_seats_64 : decode cX6_seats 64 = .ok (.aload_n 0, 1) := by decide +kernel
theorem dX6_seats_65 : decode cX6_seats 65 = .ok (.iload 5, 2) := by decide +kernel
theorem dX6_seats_67 : decode cX6_seats 67 = .ok (.iconst 1, 1) := by decide +kernel
theorem dX6_seats_68 : decode cX6_seats 68 = .ok (.invokevirtual 61, 3) := by decide +kernel
theorem dX6_seats_71 : decode cX6_seats 71 = .ok (.istore 7, 2) := by decide +kernel
theorem dX6_seats_73 : decode cX6_seats 73 = .ok (.aload_n 0, 1) := by decide +kernel
theorem dX6_seats_74 : decode cX6_seats 74 = .ok (.iload 5, 2) := by decide +kernel
theorem dX6_seats_76 : decode cX6_seats 76 = .ok (.iconst 1, 1) := by decide +kernel
theorem dX6_seats_77 : decode cX6_seats 77 = .ok (.aload_n 0, 1) := by decide +kernel
theorem dX6_seats_78 : decode cX6_seats 78 = .ok (.iload 6, 2) := by decide +kernel
theorem dX6_seats_80 : decode cX6_seats 80 = .ok (.iconst 1, 1) := by decide +kernel
theorem dX6_seats_81 : decode cX6_seats 81 = .ok (.invokevirtual 61, 3) := by decide +kernel
theorem dX6_seats_84 : decode cX6_seats 84 = .ok (.invokevirtual 64, 3) := by decide +kernel
theorem dX6_seats_87 : decode cX6_seats 87 = .ok (.aload_n 0, 1) := by decide +kernel
theorem dX6_seats_88 : decode cX6_seats 88 = .ok (.iload 6, 2) := by decide +kernel
theorem dX6_seats_90 : decode cX6_seats 90 = .ok (.iconst 1, 1) := by decide +kernel
theorem dX6_seats_91 : decode cX6_seats 91 = .ok (.iload 7, 2) := by decide +kernel
theorem dX6_seats_93 : decode cX6_seats 93 = .ok (.invokevirtual 64, 3) := by decide +kernel
theorem dX6_seats_96 : decode cX6_seats 96 = .ok (.aload_n 0, 1) := by decide +kernel
theorem dX6_seats_97 : decode cX6_seats 97 = .ok (.iconst (-1), 1) := by decide +kernel
theorem dX6_seats_98 : decode cX6_seats 98 = .ok (.iload_n 1, 1) := by decide +kernel
theorem dX6_seats_99 : decode cX6_seats 99 = .ok (.invokevirtual 167, 3) := by decide +kernel
theorem dX6_seats_102 : decode cX6_seats 102 = .ok (.istore 8, 2) := by decide +kernel
theorem dX6_seats_104 : decode cX6_seats 104 = .ok (.iload 8, 2) := by decide +kernel
theorem dX6_seats_106 : decode cX6_seats 106 = .ok (.iload_n 3, 1) := by decide +kernel
theorem dX6_seats_107 : decode cX6_seats 107 = .ok (.if_icmp .ge 14, 3) := by decide +kernel
theorem dX6_seats_110 : decode cX6_seats 110 = .ok (.bipush 10, 2) := by decide +kernel
theorem dX6_seats_112 : decode cX6_seats 112 = .ok (.iload 5, 2) := by decide +kernel
theorem dX6_seats_114 : decode cX6_seats 114 = .ok (.imul, 1) := by decide +kernel
theorem dX6_seats_115 : decode cX6_seats 115 = .ok (.iload 6, 2) := by decide +kernel
theorem dX6_seats_117 : decode cX6_seats 117 = .ok (.iadd, 1) := by decide +kernel
theorem dX6_seats_118 : decode cX6_seats 118 = .ok (.goto 5, 3) := by decide +kernel
theorem dX6_seats_121 : decode cX6_seats 121 = .ok (.iload 4, 2) := by decide +kernel
theorem dX6_seats_123 : decode cX6_seats 123 = .ok (.istore 4, 2) := by decide +kernel
theorem dX6_seats_125 : decode cX6_seats 125 = .ok (.iload 8, 2) := by decide +kernel
theorem dX6_seats_127 : decode cX6_seats 127 = .ok (.iload_n 3, 1) := by decide +kernel
theorem dX6_seats_128 : decode cX6_seats 128 = .ok (.if_icmp .ge 8, 3) := by decide +kernel
theorem dX6_seats_131 : decode cX6_seats 131 = .ok (.iload 8, 2) := by decide +kernel
theorem dX6_seats_133 : decode cX6_seats 133 = .ok (.goto 4, 3) := by decide +kernel
theorem dX6_seats_136 : decode cX6_seats 136 = .ok (.iload_n 3, 1) := by decide +kernel
theorem dX6_seats_137 : decode cX6_seats 137 = .ok (.istore_n 3, 1) := by decide +kernel
theorem dX6_seats_138 : decode cX6_seats 138 = .ok (.iinc 6 1, 3) := by decide +kernel
theorem dX6_seats_141 : decode cX6_seats 141 = .ok (.goto (-88), 3) := by decide +kernel
theorem dX6_seats_144 : decode cX6_seats 144 = .ok (.iinc 5 1, 3) := by decide +kernel
theorem dX6_seats_147 : decode cX6_seats 147 = .ok (.goto (-111), 3) := by decide +kernel
theorem dX6_seats_150 : decode cX6_seats 150 = .ok (.iload 4, 2) := by decide +kernel
theorem dX6_seats_152 : decode cX6_seats 152 = .ok (.ireturn, 1) := by decide +kernel
theorem dX6_write_0 : decode cX6_write 0 = .ok (.iload_n 1, 1) := by decide +kernel
theorem dX6_write_1 : decode cX6_write 1 = .ok (.iconst 1, 1) := by decide +kernel
theorem dX6_write_2 : decode cX6_write 2 = .ok (.if_icmp .lt 7, 3) := by decide +kernel
theorem dX6_write_5 : decode cX6_write 5 = .ok (.iload_n 2, 1) := by decide +kernel
theorem dX6_write_6 : decode cX6_write 6 = .ok (.ifCond .ge 8, 3) := by decide +kernel
theorem dX6_write_9 : decode cX6_write 9 = .ok (.bipush (-4), 2) := by decide +kernel
theorem dX6_write_11 : decode cX6_write 11 = .ok (.goto 58, 3) := by decide +kernel
theorem dX6_write_14 : decode cX6_write 14 = .ok (.iload_n 1, 1) := by decide +kernel
theorem dX6_write_15 : decode cX6_write 15 = .ok (.bipush 9, 2) := by decide +kernel
theorem dX6_write_17 : decode cX6_write 17 = .ok (.if_icmp .gt 19, 3) := by decide +kernel
theorem dX6_write_20 : decode cX6_write 20 = .ok (.iload_n 2, 1) := by decide +kernel
theorem dX6_write_21 : decode cX6_write 21 = .ok (.bipush 60, 2) := by decide +kernel
theorem dX6_write_23 : decode cX6_write 23 = .ok (.if_icmp .gt 13, 3) := by decide +kernel
theorem dX6_write_26 : decode cX6_write 26 = .ok (.aload_n 0, 1) := by decide +kernel
theorem dX6_write_27 : decode cX6_write 27 = .ok (.getfield 13, 3) := by decide +kernel
theorem dX6_write_30 : decode cX6_write 30 = .ok (.iconst 2, 1) := by decide +kernel
theorem dX6_write_31 : decode cX6_write 31 = .ok (.iaload, 1) := by decide +kernel
theorem dX6_write_32 : decode cX6_write 32 = .ok (.iconst 5, 1) := by decide +kernel
theorem dX6_write_33 : decode cX6_write 33 = .ok (.if_icmp .ne 8, 3) := by decide +kernel
theorem dX6_write_36 : decode cX6_write 36 = .ok (.bipush (-6), 2) := by decide +kernel
theorem dX6_write_38 : decode cX6_write 38 = .ok (.goto 31, 3) := by decide +kernel
theorem dX6_write_41 : decode cX6_write 41 = .ok (.iload_n 3, 1) := by decide +kernel
theorem dX6_write_42 : decode cX6_write 42 = .ok (.iconst 2, 1) := by decide +kernel
theorem dX6_write_43 : decode cX6_write 43 = .ok (.invokestatic 53, 3) := by decide +kernel
theorem dX6_write_46 : decode cX6_write 46 = .ok (.ifCond .ne 8, 3) := by decide +kernel
theorem dX6_write_49 : decode cX6_write 49 = .ok (.bipush (-2), 2) := by decide +kernel
theorem dX6_write_51 : decode cX6_write 51 = .ok (.goto 18, 3) := by decide +kernel
theorem dX6_write_54 : decode cX6_write 54 = .ok (.aload_n 0, 1) := by decide +kernel
theorem dX6_write_55 : decode cX6_write 55 = .ok (.getfield 13, 3) := by decide +kernel
theorem dX6_write_58 : decode cX6_write 58 = .ok (.iconst 3, 1) := by decide +kernel
theorem dX6_write_59 : decode cX6_write 59 = .ok (.iaload, 1) := by decide +kernel
theorem dX6_write_60 : decode cX6_write 60 = .ok (.ifCond .ne 8, 3) := by decide +kernel
theorem dX6_write_63 : decode cX6_write 63 = .ok (.bipush (-3), 2) := by decide +kernel
theorem dX6_write_65 : decode cX6_write 65 = .ok (.goto 4, 3) := by decide +kernel
theorem dX6_write_68 : decode cX6_write 68 = .ok (.iconst 0, 1) := by decide +kernel
theorem dX6_write_69 : decode cX6_write 69 = .ok (.istore 4, 2) := by decide +kernel
theorem dX6_write_71 : decode cX6_write 71 = .ok (.iload 4, 2) := by decide +kernel
theorem dX6_write_73 : decode cX6_write 73 = .ok (.ifCond .eq 10, 3) := by decide +kernel
theorem dX6_write_76 : decode cX6_write 76 = .ok (.aload_n 0, 1) := by decide +kernel
theorem dX6_write_77 : decode cX6_write 77 = .ok (.iload 4, 2) := by decide +kernel
theorem dX6_write_79 : decode cX6_write 79 = .ok (.invokevirtual 120, 3) := by decide +kernel
theorem dX6_write_82 : decode cX6_write 82 = .ok (.ireturn, 1) := by decide +kernel
theorem dX6_write_83 : decode cX6_write 83 = .ok (.aload_n 0, 1) := by decide +kernel
theorem dX6_write_84 : decode cX6_write 84 = .ok (.invokevirtual 96, 3) := by decide +kernel
theorem dX6_write_87 : decode cX6_write 87 = .ok (.bipush (-9), 2) := by decide +kernel
theorem dX6_write_89 : decode cX6_write 89 = .ok (.istore 5, 2) := by decide +kernel
theorem dX6_write_91 : decode cX6_write 91 = .ok (.bipush (-9), 2) := by decide +kernel
theorem dX6_write_93 : decode cX6_write 93 = .ok (.istore 6, 2) := by decide +kernel
theorem dX6_write_95 : decode cX6_write 95 = .ok (.iconst 0, 1) := by decide +kernel
theorem dX6_write_96 : decode cX6_write 96 = .ok (.istore 7, 2) := by decide +kernel
theorem dX6_write_98 : decode cX6_write 98 = .ok (.iload 7, 2) := by decide +kernel
theorem dX6_write_100 : decode cX6_write 100 = .ok (.bipush 60, 2) := by decide +kernel
theorem dX6_write_102 : decode cX6_write 102 = .ok (.if_icmp .ge 126, 3) := by decide +kernel
theorem dX6_write_105 : decode cX6_write 105 = .ok (.aload_n 0, 1) := by decide +kernel
theorem dX6_write_106 : decode cX6_write 106 = .ok (.getfield 13, 3) := by decide +kernel
theorem dX6_write_109 : decode cX6_write 109 = .ok (.iconst 2, 1) := by decide +kernel
theorem dX6_write_110 : decode cX6_write 110 = .ok (.iaload, 1) := by decide +kernel
theorem dX6_write_111 : decode cX6_write 111 = .ok (.istore 8, 2) := by decide +kernel
theorem dX6_write_113 : decode cX6_write 113 = .ok (.aload_n 0, 1) := by decide +kernel
theorem dX6_write_114 : decode cX6_write 114 = .ok (.getfield 13, 3) := by decide +kernel
theorem dX6_write_117 : decode cX6_write 117 = .ok (.bipush 22, 2) := by decide +kernel
theorem dX6_write_119 : decode cX6_write 119 = .ok (.iconst 3, 1) := by decide +kernel
theorem dX6_write_120 : decode cX6_write 120 = .ok (.iload 8, 2) := by decide +kernel
theorem dX6_write_122 : decode cX6_write 122 = .ok (.imul, 1) := by decide +kernel
theorem dX6_write_123 : decode cX6_write 123 = .ok (.iadd, 1) := by decide +kernel
theorem dX6_write_124 : decode cX6_write 124 = .ok (.iload 7, 2) := by decide +kernel
theorem dX6_write_126 : decode cX6_write 126 = .ok (.bipush 10, 2) := by decide +kernel
theorem dX6_write_128 : decode cX6_write 128 = .ok (.idiv, 1) := by decide +kernel
theorem dX6_write_129 : decode cX6_write 129 = .ok (.iastore, 1) := by decide +kernel
theorem dX6_write_130 : decode cX6_write 130 = .ok (.aload_n 0, 1) := by decide +kernel
theorem dX6_write_131 : decode cX6_write 131 = .ok (.getfield 13, 3) := by decide +kernel
theorem dX6_write_134 : decode cX6_write 134 = .ok (.bipush 22, 2) := by decide +kernel
theorem dX6_write_136 : decode cX6_write 136 = .ok (.iconst 3, 1) := by decide +kernel
theorem dX6_write_137 : decode cX6_write 137 = .ok (.iload 8, 2) := by decide +kernel
theorem dX6_write_139 : decode cX6_write 139 = .ok (.imul, 1) := by decide +kernel
theorem dX6_write_140 : decode cX6_write 140 = .ok (.iadd, 1) := by decide +kernel
theorem dX6_write_141 : decode cX6_write 141 = .ok (.iconst 1, 1) := by decide +kernel
theorem dX6_write_142 : decode cX6_write 142 = .ok (.iadd, 1) := by decide +kernel
theorem dX6_write_143 : decode cX6_write 143 = .ok (.iload 7, 2) := by decide +kernel
theorem dX6_write_145 : decode cX6_write 145 = .ok (.bipush 10, 2) := by decide +kernel
theorem dX6_write_147 : decode cX6_write 147 = .ok (.irem, 1) := by decide +kernel
theorem dX6_write_148 : decode cX6_write 148 = .ok (.iastore, 1) := by decide +kernel
theorem dX6_write_149 : decode cX6_write 149 = .ok (.aload_n 0, 1) := by decide +kernel
theorem dX6_write_150 : decode cX6_write 150 = .ok (.getfield 13, 3) := by decide +kernel
theorem dX6_write_153 : decode cX6_write 153 = .ok (.bipush 22, 2) := by decide +kernel
theorem dX6_write_155 : decode cX6_write 155 = .ok (.iconst 3, 1) := by decide +kernel
theorem dX6_write_156 : decode cX6_write 156 = .ok (.iload 8, 2) := by decide +kernel
theorem dX6_write_158 : decode cX6_write 158 = .ok (.imul, 1) := by decide +kernel
theorem dX6_write_159 : decode cX6_write 159 = .ok (.iadd, 1) := by decide +kernel
theorem dX6_write_160 : decode cX6_write 160 = .ok (.iconst 2, 1) := by decide +kernel
theorem dX6_write_161 : decode cX6_write 161 = .ok (.iadd, 1) := by decide +kernel
theorem dX6_write_162 : decode cX6_write 162 = .ok (.iload_n 1, 1) := by decide +kernel
theorem dX6_write_163 : decode cX6_write 163 = .ok (.iastore, 1) := by decide +kernel
theorem dX6_write_164 : decode cX6_write 164 = .ok (.aload_n 0, 1) := by decide +kernel
theorem dX6_write_165 : decode cX6_write 165 = .ok (.getfield 13, 3) := by decide +kernel
theorem dX6_write_168 : decode cX6_write 168 = .ok (.iconst 2, 1) := by decide +kernel
theorem dX6_write_169 : decode cX6_write 169 = .ok (.dup2, 1) := by decide +kernel
theorem dX6_write_170 : decode cX6_write 170 = .ok (.iaload, 1) := by decide +kernel
theorem dX6_write_171 : decode cX6_write 171 = .ok (.iconst 1, 1) := by decide +kernel
theorem dX6_write_172 : decode cX6_write 172 = .ok (.iadd, 1) := by decide +kernel
theorem dX6_write_173 : decode cX6_write 173 = .ok (.iastore, 1) := by decide +kernel
theorem dX6_write_174 : decode cX6_write 174 = .ok (.aload_n 0, 1) := by decide +kernel
theorem dX6_write_175 : decode cX6_write 175 = .ok (.iconst 0, 1) := by decide +kernel
theorem dX6_write_176 : decode cX6_write 176 = .ok (.iload 8, 2) := by decide +kernel
theorem dX6_write_178 : decode cX6_write 178 = .ok (.invokevirtual 81, 3) := by decide +kernel
theorem dX6_write_181 : decode cX6_write 181 = .ok (.aload_n 0, 1) := by decide +kernel
theorem dX6_write_182 : decode cX6_write 182 = .ok (.iload 8, 2) := by decide +kernel
theorem dX6_write_184 : decode cX6_write 184 = .ok (.iload_n 2, 1) := by decide +kernel
theorem dX6_write_185 : decode cX6_write 185 = .ok (.invokevirtual 167, 3) := by decide +kernel
theorem dX6_write_188 : decode cX6_write 188 = .ok (.istore 9, 2) := by decide +kernel
theorem dX6_write_190 : decode cX6_write 190 = .ok (.iload 9, 2) := by decide +kernel
theorem dX6_write_192 : decode cX6_write 192 = .ok (.iload 6, 2) := by decide +kernel
theorem dX6_write_194 : decode cX6_write 194 = .ok (.if_icmp .le 8, 3) := by decide +kernel
theorem dX6_write_197 : decode cX6_write 197 = .ok (.iload 7, 2) := by decide +kernel
theorem dX6_write_199 : decode cX6_write 199 = .ok (.goto 5, 3) := by decide +kernel
theorem dX6_write_202 : decode cX6_write 202 = .ok (.iload 5, 2) := by decide +kernel
theorem dX6_write_204 : decode cX6_write 204 = .ok (.istore 5, 2) := by decide +kernel
theorem dX6_write_206 : decode cX6_write 206 = .ok (.iload 9, 2) := by decide +kernel
theorem dX6_write_208 : decode cX6_write 208 = .ok (.iload 6, 2) := by decide +kernel
theorem dX6_write_210 : decode cX6_write 210 = .ok (.if_icmp .le 8, 3) := by decide +kernel
theorem dX6_write_213 : decode cX6_write 213 = .ok (.iload 9, 2) := by decide +kernel
theorem dX6_write_215 : decode cX6_write 215 = .ok (.goto 5, 3) := by decide +kernel
theorem dX6_write_218 : decode cX6_write 218 = .ok (.iload 6, 2) := by decide +kernel
theorem dX6_write_220 : decode cX6_write 220 = .ok (.istore 6, 2) := by decide +kernel
theorem dX6_write_222 : decode cX6_write 222 = .ok (.iinc 7 1, 3) := by decide +kernel
theorem dX6_write_225 : decode cX6_write 225 = .ok (.goto (-127), 3) := by decide +kernel
theorem dX6_write_228 : decode cX6_write 228 = .ok (.iload_n 3, 1) := by decide +kernel
theorem dX6_write_229 : decode cX6_write 229 = .ok (.ifCond .ne 8, 3) := by decide +kernel
theorem dX6_write_232 : decode cX6_write 232 = .ok (.iload 5, 2) := by decide +kernel
theorem dX6_write_234 : decode cX6_write 234 = .ok (.goto 5, 3) := by decide +kernel
theorem dX6_write_237 : decode cX6_write 237 = .ok (.iload 6, 2) := by decide +kernel
theorem dX6_write_239 : decode cX6_write 239 = .ok (.ireturn, 1) := by decide +kernel
theorem dX6_row_0 : decode cX6_row 0 = .ok (.iload_n 1, 1) := by decide +kernel
theorem dX6_row_1 : decode cX6_row 1 = .ok (.iconst 0, 1) := by decide +kernel
theorem dX6_row_2 : decode cX6_row 2 = .ok (.bipush 9, 2) := by decide +kernel
theorem dX6_row_4 : decode cX6_row 4 = .ok (.invokestatic 112, 3) := by decide +kernel
theorem dX6_row_7 : decode cX6_row 7 = .ok (.istore_n 2, 1) := by decide +kernel
theorem dX6_row_8 : decode cX6_row 8 = .ok (.iload_n 2, 1) := by decide +kernel
theorem dX6_row_9 : decode cX6_row 9 = .ok (.ifCond .ne 15, 3) := by decide +kernel
theorem dX6_row_12 : decode cX6_row 12 = .ok (.aload_n 0, 1) := by decide +kernel
theorem dX6_row_13 : decode cX6_row 13 = .ok (.getfield 180, 3) := by decide +kernel
theorem dX6_row_16 : decode cX6_row 16 = .ok (.bipush 6, 2) := by decide +kernel
theorem dX6_row_18 : decode cX6_row 18 = .ok (.if_icmp .ne 6, 3) := by decide +kernel
theorem dX6_row_21 : decode cX6_row 21 = .ok (.bipush (-6), 2) := by decide +kernel
theorem dX6_row_23 : decode cX6_row 23 = .ok (.istore_n 2, 1) := by decide +kernel
theorem dX6_row_24 : decode cX6_row 24 = .ok (.iload_n 2, 1) := by decide +kernel
theorem dX6_row_25 : decode cX6_row 25 = .ok (.ifCond .eq 9, 3) := by decide +kernel
theorem dX6_row_28 : decode cX6_row 28 = .ok (.aload_n 0, 1) := by decide +kernel
theorem dX6_row_29 : decode cX6_row 29 = .ok (.iload_n 2, 1) := by decide +kernel
theorem dX6_row_30 : decode cX6_row 30 = .ok (.invokevirtual 120, 3) := by decide +kernel
theorem dX6_row_33 : decode cX6_row 33 = .ok (.ireturn, 1) := by decide +kernel
theorem dX6_row_34 : decode cX6_row 34 = .ok (.aload_n 0, 1) := by decide +kernel
theorem dX6_row_35 : decode cX6_row 35 = .ok (.getfield 46, 3) := by decide +kernel
theorem dX6_row_38 : decode cX6_row 38 = .ok (.aload_n 0, 1) := by decide +kernel
theorem dX6_row_39 : decode cX6_row 39 = .ok (.getfield 180, 3) := by decide +kernel
theorem dX6_row_42 : decode cX6_row 42 = .ok (.iload_n 1, 1) := by decide +kernel
theorem dX6_row_43 : decode cX6_row 43 = .ok (.iastore, 1) := by decide +kernel
theorem dX6_row_44 : decode cX6_row 44 = .ok (.aload_n 0, 1) := by decide +kernel
theorem dX6_row_45 : decode cX6_row 45 = .ok (.dup, 1) := by decide +kernel
theorem dX6_row_46 : decode cX6_row 46 = .ok (.getfield 180, 3) := by decide +kernel
theorem dX6_row_49 : decode cX6_row 49 = .ok (.iconst 1, 1) := by decide +kernel
theorem dX6_row_50 : decode cX6_row 50 = .ok (.iadd, 1) := by decide +kernel
theorem dX6_row_51 : decode cX6_row 51 = .ok (.putfield 180, 3) := by decide +kernel
theorem dX6_row_54 : decode cX6_row 54 = .ok (.aload_n 0, 1) := by decide +kernel
theorem dX6_row_55 : decode cX6_row 55 = .ok (.getfield 180, 3) := by decide +kernel
theorem dX6_row_58 : decode cX6_row 58 = .ok (.ireturn, 1) := by decide +kernel
theorem dX6_isTold_0 : decode cX6_isTold 0 = .ok (.aload_n 0, 1) := by decide +kernel
theorem dX6_isTold_1 : decode cX6_isTold 1 = .ok (.getfield 46, 3) := by decide +kernel
theorem dX6_isTold_4 : decode cX6_isTold 4 = .ok (.iload_n 1, 1) := by decide +kernel
theorem dX6_isTold_5 : decode cX6_isTold 5 = .ok (.iaload, 1) := by decide +kernel
theorem dX6_isTold_6 : decode cX6_isTold 6 = .ok (.aload_n 0, 1) := by decide +kernel
theorem dX6_isTold_7 : decode cX6_isTold 7 = .ok (.iload_n 1, 1) := by decide +kernel
theorem dX6_isTold_8 : decode cX6_isTold 8 = .ok (.iconst 3, 1) := by decide +kernel
theorem dX6_isTold_9 : decode cX6_isTold 9 = .ok (.invokevirtual 61, 3) := by decide +kernel
theorem dX6_isTold_12 : decode cX6_isTold 12 = .ok (.ifCond .ge 8, 3) := by decide +kernel
theorem dX6_isTold_15 : decode cX6_isTold 15 = .ok (.bipush 9, 2) := by decide +kernel
theorem dX6_isTold_17 : decode cX6_isTold 17 = .ok (.goto 9, 3) := by decide +kernel
theorem dX6_isTold_20 : decode cX6_isTold 20 = .ok (.aload_n 0, 1) := by decide +kernel
theorem dX6_isTold_21 : decode cX6_isTold 21 = .ok (.iload_n 1, 1) := by decide +kernel
theorem dX6_isTold_22 : decode cX6_isTold 22 = .ok (.iconst 3, 1) := by decide +kernel
theorem dX6_isTold_23 : decode cX6_isTold 23 = .ok (.invokevirtual 61, 3) := by decide +kernel
theorem dX6_isTold_26 : decode cX6_isTold 26 = .ok (.if_icmp .ne 7, 3) := by decide +kernel
theorem dX6_isTold_29 : decode cX6_isTold 29 = .ok (.iconst 1, 1) := by decide +kernel
theorem dX6_isTold_30 : decode cX6_isTold 30 = .ok (.goto 4, 3) := by decide +kernel
theorem dX6_isTold_33 : decode cX6_isTold 33 = .ok (.iconst 0, 1) := by decide +kernel
theorem dX6_isTold_34 : decode cX6_isTold 34 = .ok (.ireturn, 1) := by decide +kernel
theorem dX6_isAllTold_0 : decode cX6_isAllTold 0 = .ok (.iconst 0, 1) := by decide +kernel
theorem dX6_isAllTold_1 : decode cX6_isAllTold 1 = .ok (.istore_n 1, 1) := by decide +kernel
theorem dX6_isAllTold_2 : decode cX6_isAllTold 2 = .ok (.iload_n 1, 1) := by decide +kernel
theorem dX6_isAllTold_3 : decode cX6_isAllTold 3 = .ok (.aload_n 0, 1) := by decide +kernel
theorem dX6_isAllTold_4 : decode cX6_isAllTold 4 = .ok (.getfield 13, 3) := by decide +kernel
theorem dX6_isAllTold_7 : decode cX6_isAllTold 7 = .ok (.iconst 3, 1) := by decide +kernel
theorem dX6_isAllTold_8 : decode cX6_isAllTold 8 = .ok (.iaload, 1) := by decide +kernel
theorem dX6_isAllTold_9 : decode cX6_isAllTold 9 = .ok (.if_icmp .ge 19, 3) := by decide +kernel
theorem dX6_isAllTold_12 : decode cX6_isAllTold 12 = .ok (.aload_n 0, 1) := by decide +kernel
theorem dX6_isAllTold_13 : decode cX6_isAllTold 13 = .ok (.iload_n 1, 1) := by decide +kernel
theorem dX6_isAllTold_14 : decode cX6_isAllTold 14 = .ok (.invokevirtual 183, 3) := by decide +kernel
theorem dX6_isAllTold_17 : decode cX6_isAllTold 17 = .ok (.ifCond .ne 5, 3) := by decide +kernel
theorem dX6_isAllTold_20 : decode cX6_isAllTold 20 = .ok (.iconst 0, 1) := by decide +kernel
theorem dX6_isAllTold_21 : decode cX6_isAllTold 21 = .ok (.ireturn, 1) := by decide +kernel
theorem dX6_isAllTold_22 : decode cX6_isAllTold 22 = .ok (.iinc 1 1, 3) := by decide +kernel
theorem dX6_isAllTold_25 : decode cX6_isAllTold 25 = .ok (.goto (-23), 3) := by decide +kernel
theorem dX6_isAllTold_28 : decode cX6_isAllTold 28 = .ok (.iconst 1, 1) := by decide +kernel
theorem dX6_isAllTold_29 : decode cX6_isAllTold 29 = .ok (.ireturn, 1) := by decide +kernel
theorem dX6_otherwise_0 : decode cX6_otherwise 0 = .ok (.iload_n 1, 1) := by decide +kernel
theorem dX6_otherwise_1 : decode cX6_otherwise 1 = .ok (.iconst 0, 1) := by decide +kernel
theorem dX6_otherwise_2 : decode cX6_otherwise 2 = .ok (.bipush 60, 2) := by decide +kernel
theorem dX6_otherwise_4 : decode cX6_otherwise 4 = .ok (.invokestatic 112, 3) := by decide +kernel
theorem dX6_otherwise_7 : decode cX6_otherwise 7 = .ok (.istore_n 3, 1) := by decide +kernel
theorem dX6_otherwise_8 : decode cX6_otherwise 8 = .ok (.iload_n 3, 1) := by decide +kernel
theorem dX6_otherwise_9 : decode cX6_otherwise 9 = .ok (.ifCond .ne 36, 3) := by decide +kernel
theorem dX6_otherwise_12 : decode cX6_otherwise 12 = .ok (.iload_n 2, 1) := by decide +kernel
theorem dX6_otherwise_13 : decode cX6_otherwise 13 = .ok (.iconst 2, 1) := by decide +kernel
theorem dX6_otherwise_14 : decode cX6_otherwise 14 = .ok (.invokestatic 53, 3) := by decide +kernel
theorem dX6_otherwise_17 : decode cX6_otherwise 17 = .ok (.ifCond .ne 8, 3) := by decide +kernel
theorem dX6_otherwise_20 : decode cX6_otherwise 20 = .ok (.bipush (-2), 2) := by decide +kernel
theorem dX6_otherwise_22 : decode cX6_otherwise 22 = .ok (.goto 22, 3) := by decide +kernel
theorem dX6_otherwise_25 : decode cX6_otherwise 25 = .ok (.aload_n 0, 1) := by decide +kernel
theorem dX6_otherwise_26 : decode cX6_otherwise 26 = .ok (.getfield 180, 3) := by decide +kernel
theorem dX6_otherwise_29 : decode cX6_otherwise 29 = .ok (.aload_n 0, 1) := by decide +kernel
theorem dX6_otherwise_30 : decode cX6_otherwise 30 = .ok (.getfield 13, 3) := by decide +kernel
theorem dX6_otherwise_33 : decode cX6_otherwise 33 = .ok (.iconst 3, 1) := by decide +kernel
theorem dX6_otherwise_34 : decode cX6_otherwise 34 = .ok (.iaload, 1) := by decide +kernel
theorem dX6_otherwise_35 : decode cX6_otherwise 35 = .ok (.if_icmp .eq 8, 3) := by decide +kernel
theorem dX6_otherwise_38 : decode cX6_otherwise 38 = .ok (.bipush (-3), 2) := by decide +kernel
theorem dX6_otherwise_40 : decode cX6_otherwise 40 = .ok (.goto 4, 3) := by decide +kernel
theorem dX6_otherwise_43 : decode cX6_otherwise 43 = .ok (.iconst 0, 1) := by decide +kernel
theorem dX6_otherwise_44 : decode cX6_otherwise 44 = .ok (.istore_n 3, 1) := by decide +kernel
theorem dX6_otherwise_45 : decode cX6_otherwise 45 = .ok (.iload_n 3, 1) := by decide +kernel
theorem dX6_otherwise_46 : decode cX6_otherwise 46 = .ok (.ifCond .eq 9, 3) := by decide +kernel
theorem dX6_otherwise_49 : decode cX6_otherwise 49 = .ok (.aload_n 0, 1) := by decide +kernel
theorem dX6_otherwise_50 : decode cX6_otherwise 50 = .ok (.iload_n 3, 1) := by decide +kernel
theorem dX6_otherwise_51 : decode cX6_otherwise 51 = .ok (.invokevirtual 120, 3) := by decide +kernel
theorem dX6_otherwise_54 : decode cX6_otherwise 54 = .ok (.ireturn, 1) := by decide +kernel
theorem dX6_otherwise_55 : decode cX6_otherwise 55 = .ok (.aload_n 0, 1) := by decide +kernel
theorem dX6_otherwise_56 : decode cX6_otherwise 56 = .ok (.invokevirtual 96, 3) := by decide +kernel
theorem dX6_otherwise_59 : decode cX6_otherwise 59 = .ok (.iconst 0, 1) := by decide +kernel
theorem dX6_otherwise_60 : decode cX6_otherwise 60 = .ok (.istore 4, 2) := by decide +kernel
theorem dX6_otherwise_62 : decode cX6_otherwise 62 = .ok (.bipush (-9), 2) := by decide +kernel
theorem dX6_otherwise_64 : decode cX6_otherwise 64 = .ok (.istore 5, 2) := by decide +kernel
theorem dX6_otherwise_66 : decode cX6_otherwise 66 = .ok (.iconst 0, 1) := by decide +kernel
theorem dX6_otherwise_67 : decode cX6_otherwise 67 = .ok (.istore 6, 2) := by decide +kernel
theorem dX6_otherwise_69 : decode cX6_otherwise 69 = .ok (.iload 6, 2) := by decide +kernel
theorem dX6_otherwise_71 : decode cX6_otherwise 71 = .ok (.bipush 10, 2) := by decide +kernel
theorem dX6_otherwise_73 : decode cX6_otherwise 73 = .ok (.aload_n 0, 1) := by decide +kernel
theorem dX6_otherwise_74 : decode cX6_otherwise 74 = .ok (.getfield 13, 3) := by decide +kernel
theorem dX6_otherwise_77 : decode cX6_otherwise 77 = .ok (.iconst 3, 1) := by decide +kernel
theorem dX6_otherwise_78 : decode cX6_otherwise 78 = .ok (.iaload, 1) := by decide +kernel
theorem dX6_otherwise_79 : decode cX6_otherwise 79 = .ok (.imul, 1) := by decide +kernel
theorem dX6_otherwise_80 : decode cX6_otherwise 80 = .ok (.if_icmp .ge 121, 3) := by decide +kernel
theorem dX6_otherwise_83 : decode cX6_otherwise 83 = .ok (.iload 6, 2) := by decide +kernel
theorem dX6_otherwise_85 : decode cX6_otherwise 85 = .ok (.bipush 10, 2) := by decide +kernel
theorem dX6_otherwise_87 : decode cX6_otherwise 87 = .ok (.idiv, 1) := by decide +kernel
theorem dX6_otherwise_88 : decode cX6_otherwise 88 = .ok (.istore 7, 2) := by decide +kernel
theorem dX6_otherwise_90 : decode cX6_otherwise 90 = .ok (.iload 6, 2) := by decide +kernel
theorem dX6_otherwise_92 : decode cX6_otherwise 92 = .ok (.bipush 10, 2) := by decide +kernel
theorem dX6_otherwise_94 : decode cX6_otherwise 94 = .ok (.irem, 1) := by decide +kernel
theorem dX6_otherwise_95 : decode cX6_otherwise 95 = .ok (.bipush 9, 2) := by decide +kernel
theorem dX6_otherwise_97 : decode cX6_otherwise 97 = .ok (.if_icmp .ne 8, 3) := by decide +kernel
theorem dX6_otherwise_100 : decode cX6_otherwise 100 = .ok (.bipush (-9), 2) := by decide +kernel
theorem dX6_otherwise_102 : decode cX6_otherwise 102 = .ok (.goto 8, 3) := by decide +kernel
theorem dX6_otherwise_105 : decode cX6_otherwise 105 = .ok (.iload 6, 2) := by decide +kernel
theorem dX6_otherwise_107 : decode cX6_otherwise 107 = .ok (.bipush 10, 2) := by decide +kernel
theorem dX6_otherwise_109 : decode cX6_otherwise 109 = .ok (.irem, 1) := by decide +kernel
theorem dX6_otherwise_110 : decode cX6_otherwise 110 = .ok (.istore 8, 2) := by decide +kernel
theorem dX6_otherwise_112 : decode cX6_otherwise 112 = .ok (.iload 8, 2) := by decide +kernel
theorem dX6_otherwise_114 : decode cX6_otherwise 114 = .ok (.aload_n 0, 1) := by decide +kernel
theorem dX6_otherwise_115 : decode cX6_otherwise 115 = .ok (.getfield 13, 3) := by decide +kernel
theorem dX6_otherwise_118 : decode cX6_otherwise 118 = .ok (.iconst 2, 1) := by decide +kernel
theorem dX6_otherwise_119 : decode cX6_otherwise 119 = .ok (.iaload, 1) := by decide +kernel
theorem dX6_otherwise_120 : decode cX6_otherwise 120 = .ok (.if_icmp .ge 75, 3) := by decide +kernel
theorem dX6_otherwise_123 : decode cX6_otherwise 123 = .ok (.iload 8, 2) := by decide +kernel
theorem dX6_otherwise_125 : decode cX6_otherwise 125 = .ok (.aload_n 0, 1) := by decide +kernel
theorem dX6_otherwise_126 : decode cX6_otherwise 126 = .ok (.iload 7, 2) := by decide +kernel
theorem dX6_otherwise_128 : decode cX6_otherwise 128 = .ok (.iconst 3, 1) := by decide +kernel
theorem dX6_otherwise_129 : decode cX6_otherwise 129 = .ok (.invokevirtual 61, 3) := by decide +kernel
theorem dX6_otherwise_132 : decode cX6_otherwise 132 = .ok (.if_icmp .ne 6, 3) := by decide +kernel
theorem dX6_otherwise_135 : decode cX6_otherwise 135 = .ok (.goto 60, 3) := by decide +kernel
theorem dX6_otherwise_138 : decode cX6_otherwise 138 = .ok (.aload_n 0, 1) := by decide +kernel
theorem dX6_otherwise_139 : decode cX6_otherwise 139 = .ok (.iload 7, 2) := by decide +kernel
theorem dX6_otherwise_141 : decode cX6_otherwise 141 = .ok (.iload 8, 2) := by decide +kernel
theorem dX6_otherwise_143 : decode cX6_otherwise 143 = .ok (.invokevirtual 81, 3) := by decide +kernel
theorem dX6_otherwise_146 : decode cX6_otherwise 146 = .ok (.aload_n 0, 1) := by decide +kernel
theorem dX6_otherwise_147 : decode cX6_otherwise 147 = .ok (.iload_n 1, 1) := by decide +kernel
theorem dX6_otherwise_148 : decode cX6_otherwise 148 = .ok (.invokevirtual 103, 3) := by decide +kernel
theorem dX6_otherwise_151 : decode cX6_otherwise 151 = .ok (.aload_n 0, 1) := by decide +kernel
theorem dX6_otherwise_152 : decode cX6_otherwise 152 = .ok (.invokevirtual 186, 3) := by decide +kernel
theorem dX6_otherwise_155 : decode cX6_otherwise 155 = .ok (.istore 9, 2) := by decide +kernel
theorem dX6_otherwise_157 : decode cX6_otherwise 157 = .ok (.aload_n 0, 1) := by decide +kernel
theorem dX6_otherwise_158 : decode cX6_otherwise 158 = .ok (.invokevirtual 109, 3) := by decide +kernel
theorem dX6_otherwise_161 : decode cX6_otherwise 161 = .ok (.iload 9, 2) := by decide +kernel
theorem dX6_otherwise_163 : decode cX6_otherwise 163 = .ok (.ifCond .eq 13, 3) := by decide +kernel
theorem dX6_otherwise_166 : decode cX6_otherwise 166 = .ok (.iload 4, 2) := by decide +kernel
theorem dX6_otherwise_168 : decode cX6_otherwise 168 = .ok (.ifCond .ne 8, 3) := by decide +kernel
theorem dX6_otherwise_171 : decode cX6_otherwise 171 = .ok (.iload 6, 2) := by decide +kernel
theorem dX6_otherwise_173 : decode cX6_otherwise 173 = .ok (.goto 5, 3) := by decide +kernel
theorem dX6_otherwise_176 : decode cX6_otherwise 176 = .ok (.iload 5, 2) := by decide +kernel
theorem dX6_otherwise_178 : decode cX6_otherwise 178 = .ok (.istore 5, 2) := by decide +kernel
theorem dX6_otherwise_180 : decode cX6_otherwise 180 = .ok (.iload 4, 2) := by decide +kernel
theorem dX6_otherwise_182 : decode cX6_otherwise 182 = .ok (.iload 9, 2) := by decide +kernel
theorem dX6_otherwise_184 : decode cX6_otherwise 184 = .ok (.ifCond .eq 7, 3) := by decide +kernel
theorem dX6_otherwise_187 : decode cX6_otherwise 187 = .ok (.iconst 1, 1) := by decide +kernel
theorem dX6_otherwise_188 : decode cX6_otherwise 188 = .ok (.goto 4, 3) := by decide +kernel
theorem dX6_otherwise_191 : decode cX6_otherwise 191 = .ok (.iconst 0, 1) := by decide +kernel
theorem dX6_otherwise_192 : decode cX6_otherwise 192 = .ok (.iadd, 1) := by decide +kernel
theorem dX6_otherwise_193 : decode cX6_otherwise 193 = .ok (.istore 4, 2) := by decide +kernel
theorem dX6_otherwise_195 : decode cX6_otherwise 195 = .ok (.iinc 6 1, 3) := by decide +kernel
theorem dX6_otherwise_198 : decode cX6_otherwise 198 = .ok (.goto (-129), 3) := by decide +kernel
theorem dX6_otherwise_201 : decode cX6_otherwise 201 = .ok (.iload_n 2, 1) := by decide +kernel
theorem dX6_otherwise_202 : decode cX6_otherwise 202 = .ok (.ifCond .ne 8, 3) := by decide +kernel
theorem dX6_otherwise_205 : decode cX6_otherwise 205 = .ok (.iload 4, 2) := by decide +kernel
theorem dX6_otherwise_207 : decode cX6_otherwise 207 = .ok (.goto 5, 3) := by decide +kernel
theorem dX6_otherwise_210 : decode cX6_otherwise 210 = .ok (.iload 5, 2) := by decide +kernel
theorem dX6_otherwise_212 : decode cX6_otherwise 212 = .ok (.ireturn, 1) := by decide +kernel
theorem dX6_judge_0 : decode cX6_judge 0 = .ok (.aload_n 0, 1) := by decide +kernel
theorem dX6_judge_1 : decode cX6_judge 1 = .ok (.getfield 180, 3) := by decide +kernel
theorem dX6_judge_4 : decode cX6_judge 4 = .ok (.istore_n 1, 1) := by decide +kernel
theorem dX6_judge_5 : decode cX6_judge 5 = .ok (.aload_n 0, 1) := by decide +kernel
theorem dX6_judge_6 : decode cX6_judge 6 = .ok (.iconst 0, 1) := by decide +kernel
theorem dX6_judge_7 : decode cX6_judge 7 = .ok (.putfield 180, 3) := by decide +kernel
theorem dX6_judge_10 : decode cX6_judge 10 = .ok (.iconst 0, 1) := by decide +kernel
theorem dX6_judge_11 : decode cX6_judge 11 = .ok (.istore_n 2, 1) := by decide +kernel
theorem dX6_judge_12 : decode cX6_judge 12 = .ok (.iload_n 2, 1) := by decide +kernel
theorem dX6_judge_13 : decode cX6_judge 13 = .ok (.iload_n 1, 1) := by decide +kernel
theorem dX6_judge_14 : decode cX6_judge 14 = .ok (.if_icmp .ge 29, 3) := by decide +kernel
theorem dX6_judge_17 : decode cX6_judge 17 = .ok (.iload_n 2, 1) := by decide +kernel
theorem dX6_judge_18 : decode cX6_judge 18 = .ok (.aload_n 0, 1) := by decide +kernel
theorem dX6_judge_19 : decode cX6_judge 19 = .ok (.getfield 13, 3) := by decide +kernel
theorem dX6_judge_22 : decode cX6_judge 22 = .ok (.iconst 3, 1) := by decide +kernel
theorem dX6_judge_23 : decode cX6_judge 23 = .ok (.iaload, 1) := by decide +kernel
theorem dX6_judge_24 : decode cX6_judge 24 = .ok (.if_icmp .eq 11, 3) := by decide +kernel
theorem dX6_judge_27 : decode cX6_judge 27 = .ok (.aload_n 0, 1) := by decide +kernel
theorem dX6_judge_28 : decode cX6_judge 28 = .ok (.iload_n 2, 1) := by decide +kernel
theorem dX6_judge_29 : decode cX6_judge 29 = .ok (.invokevirtual 183, 3) := by decide +kernel
theorem dX6_judge_32 : decode cX6_judge 32 = .ok (.ifCond .ne 5, 3) := by decide +kernel
theorem dX6_judge_35 : decode cX6_judge 35 = .ok (.iload_n 2, 1) := by decide +kernel
theorem dX6_judge_36 : decode cX6_judge 36 = .ok (.ireturn, 1) := by decide +kernel
theorem dX6_judge_37 : decode cX6_judge 37 = .ok (.iinc 2 1, 3) := by decide +kernel
theorem dX6_judge_40 : decode cX6_judge 40 = .ok (.goto (-28), 3) := by decide +kernel
theorem dX6_judge_43 : decode cX6_judge 43 = .ok (.iload_n 1, 1) := by decide +kernel
theorem dX6_judge_44 : decode cX6_judge 44 = .ok (.aload_n 0, 1) := by decide +kernel
theorem dX6_judge_45 : decode cX6_judge 45 = .ok (.getfield 13, 3) := by decide +kernel
theorem dX6_judge_48 : decode cX6_judge 48 = .ok (.iconst 3, 1) := by decide +kernel
theorem dX6_judge_49 : decode cX6_judge 49 = .ok (.iaload, 1) := by decide +kernel
theorem dX6_judge_50 : decode cX6_judge 50 = .ok (.if_icmp .ge 7, 3) := by decide +kernel
theorem dX6_judge_53 : decode cX6_judge 53 = .ok (.iload_n 1, 1) := by decide +kernel
theorem dX6_judge_54 : decode cX6_judge 54 = .ok (.goto 5, 3) := by decide +kernel
theorem dX6_judge_57 : decode cX6_judge 57 = .ok (.bipush (-9), 2) := by decide +kernel
theorem dX6_judge_59 : decode cX6_judge 59 = .ok (.ireturn, 1) := by decide +kernel
theorem dX6_seeds_0 : decode cX6_seeds 0 = .ok (.iload_n 1, 1) := by decide +kernel
theorem dX6_seeds_1 : decode cX6_seeds 1 = .ok (.iconst 1, 1) := by decide +kernel
theorem dX6_seeds_2 : decode cX6_seeds 2 = .ok (.bipush 40, 2) := by decide +kernel
theorem dX6_seeds_4 : decode cX6_seeds 4 = .ok (.invokestatic 112, 3) := by decide +kernel
theorem dX6_seeds_7 : decode cX6_seeds 7 = .ok (.istore_n 3, 1) := by decide +kernel
theorem dX6_seeds_8 : decode cX6_seeds 8 = .ok (.iload_n 3, 1) := by decide +kernel
theorem dX6_seeds_9 : decode cX6_seeds 9 = .ok (.ifCond .eq 9, 3) := by decide +kernel
theorem dX6_seeds_12 : decode cX6_seeds 12 = .ok (.aload_n 0, 1) := by decide +kernel
theorem dX6_seeds_13 : decode cX6_seeds 13 = .ok (.iload_n 3, 1) := by decide +kernel
theorem dX6_seeds_14 : decode cX6_seeds 14 = .ok (.invokevirtual 120, 3) := by decide +kernel
theorem dX6_seeds_17 : decode cX6_seeds 17 = .ok (.ireturn, 1) := by decide +kernel
theorem dX6_seeds_18 : decode cX6_seeds 18 = .ok (.aload_n 0, 1) := by decide +kernel
theorem dX6_seeds_19 : decode cX6_seeds 19 = .ok (.invokevirtual 96, 3) := by decide +kernel
theorem dX6_seeds_22 : decode cX6_seeds 22 = .ok (.iload_n 2, 1) := by decide +kernel
theorem dX6_seeds_23 : decode cX6_seeds 23 = .ok (.istore 4, 2) := by decide +kernel
theorem dX6_seeds_25 : decode cX6_seeds 25 = .ok (.iconst 0, 1) := by decide +kernel
theorem dX6_seeds_26 : decode cX6_seeds 26 = .ok (.istore 5, 2) := by decide +kernel
theorem dX6_seeds_28 : decode cX6_seeds 28 = .ok (.iload 5, 2) := by decide +kernel
theorem dX6_seeds_30 : decode cX6_seeds 30 = .ok (.iload_n 1, 1) := by decide +kernel
theorem dX6_seeds_31 : decode cX6_seeds 31 = .ok (.if_icmp .ge 62, 3) := by decide +kernel
theorem dX6_seeds_34 : decode cX6_seeds 34 = .ok (.iconst 0, 1) := by decide +kernel
theorem dX6_seeds_35 : decode cX6_seeds 35 = .ok (.istore 6, 2) := by decide +kernel
theorem dX6_seeds_37 : decode cX6_seeds 37 = .ok (.iload 6, 2) := by decide +kernel
theorem dX6_seeds_39 : decode cX6_seeds 39 = .ok (.aload_n 0, 1) := by decide +kernel
theorem dX6_seeds_40 : decode cX6_seeds 40 = .ok (.getfield 13, 3) := by decide +kernel
theorem dX6_seeds_43 : decode cX6_seeds 43 = .ok (.iconst 3, 1) := by decide +kernel
theorem dX6_seeds_44 : decode cX6_seeds 44 = .ok (.iaload, 1) := by decide +kernel
theorem dX6_seeds_45 : decode cX6_seeds 45 = .ok (.if_icmp .ge 37, 3) := by decide +kernel
theorem dX6_seeds_48 : decode cX6_seeds 48 = .ok (.iload 4, 2) := by decide +kernel
theorem dX6_seeds_50 : decode cX6_seeds 50 = .ok (.ldc 189, 2) := by decide +kernel
theorem dX6_seeds_52 : decode cX6_seeds 52 = .ok (.imul, 1) := by decide +kernel
theorem dX6_seeds_53 : decode cX6_seeds 53 = .ok (.ldc 190, 2) := by decide +kernel
theorem dX6_seeds_55 : decode cX6_seeds 55 = .ok (.iadd, 1) := by decide +kernel
theorem dX6_seeds_56 : decode cX6_seeds 56 = .ok (.istore 4, 2) := by decide +kernel
theorem dX6_seeds_58 : decode cX6_seeds 58 = .ok (.aload_n 0, 1) := by decide +kernel
theorem dX6_seeds_59 : decode cX6_seeds 59 = .ok (.iload 6, 2) := by decide +kernel
theorem dX6_seeds_61 : decode cX6_seeds 61 = .ok (.iconst 1, 1) := by decide +kernel
theorem dX6_seeds_62 : decode cX6_seeds 62 = .ok (.iload 4, 2) := by decide +kernel
theorem dX6_seeds_64 : decode cX6_seeds 64 = .ok (.ldc 191, 2) := by decide +kernel
theorem dX6_seeds_66 : decode cX6_seeds 66 = .ok (.iand, 1) := by decide +kernel
theorem dX6_seeds_67 : decode cX6_seeds 67 = .ok (.sipush 256, 3) := by decide +kernel
theorem dX6_seeds_70 : decode cX6_seeds 70 = .ok (.idiv, 1) := by decide +kernel
theorem dX6_seeds_71 : decode cX6_seeds 71 = .ok (.iconst 5, 1) := by decide +kernel
theorem dX6_seeds_72 : decode cX6_seeds 72 = .ok (.irem, 1) := by decide +kernel
theorem dX6_seeds_73 : decode cX6_seeds 73 = .ok (.invokevirtual 64, 3) := by decide +kernel
theorem dX6_seeds_76 : decode cX6_seeds 76 = .ok (.iinc 6 1, 3) := by decide +kernel
theorem dX6_seeds_79 : decode cX6_seeds 79 = .ok (.goto (-42), 3) := by decide +kernel
theorem dX6_seeds_82 : decode cX6_seeds 82 = .ok (.aload_n 0, 1) := by decide +kernel
theorem dX6_seeds_83 : decode cX6_seeds 83 = .ok (.invokevirtual 99, 3) := by decide +kernel
theorem dX6_seeds_86 : decode cX6_seeds 86 = .ok (.pop, 1) := by decide +kernel
theorem dX6_seeds_87 : decode cX6_seeds 87 = .ok (.iinc 5 1, 3) := by decide +kernel
theorem dX6_seeds_90 : decode cX6_seeds 90 = .ok (.goto (-62), 3) := by decide +kernel
theorem dX6_seeds_93 : decode cX6_seeds 93 = .ok (.aload_n 0, 1) := by decide +kernel
theorem dX6_seeds_94 : decode cX6_seeds 94 = .ok (.iconst (-1), 1) := by decide +kernel
theorem dX6_seeds_95 : decode cX6_seeds 95 = .ok (.invokevirtual 106, 3) := by decide +kernel
theorem dX6_seeds_98 : decode cX6_seeds 98 = .ok (.istore 5, 2) := by decide +kernel
theorem dX6_seeds_100 : decode cX6_seeds 100 = .ok (.aload_n 0, 1) := by decide +kernel
theorem dX6_seeds_101 : decode cX6_seeds 101 = .ok (.invokevirtual 109, 3) := by decide +kernel
theorem dX6_seeds_104 : decode cX6_seeds 104 = .ok (.iload 5, 2) := by decide +kernel
theorem dX6_seeds_106 : decode cX6_seeds 106 = .ok (.ireturn, 1) := by decide +kernel
theorem dX6_image_0 : decode cX6_image 0 = .ok (.aload_n 0, 1) := by decide +kernel
theorem dX6_image_1 : decode cX6_image 1 = .ok (.getfield 13, 3) := by decide +kernel
theorem dX6_image_4 : decode cX6_image 4 = .ok (.aload_n 0, 1) := by decide +kernel
theorem dX6_image_5 : decode cX6_image 5 = .ok (.getfield 16, 3) := by decide +kernel
theorem dX6_image_8 : decode cX6_image 8 = .ok (.invokestatic 49, 3) := by decide +kernel
theorem dX6_image_11 : decode cX6_image 11 = .ok (.aload_n 0, 1) := by decide +kernel
theorem dX6_image_12 : decode cX6_image 12 = .ok (.iconst 1, 1) := by decide +kernel
theorem dX6_image_13 : decode cX6_image 13 = .ok (.putfield 192, 3) := by decide +kernel
theorem dX6_image_16 : decode cX6_image 16 = .ok (.aload_n 0, 1) := by decide +kernel
theorem dX6_image_17 : decode cX6_image 17 = .ok (.getfield 13, 3) := by decide +kernel
theorem dX6_image_20 : decode cX6_image 20 = .ok (.iconst 4, 1) := by decide +kernel
theorem dX6_image_21 : decode cX6_image 21 = .ok (.iaload, 1) := by decide +kernel
theorem dX6_image_22 : decode cX6_image 22 = .ok (.ireturn, 1) := by decide +kernel
theorem dX6_on_0 : decode cX6_on 0 = .ok (.aload_n 0, 1) := by decide +kernel
theorem dX6_on_1 : decode cX6_on 1 = .ok (.getfield 192, 3) := by decide +kernel
theorem dX6_on_4 : decode cX6_on 4 = .ok (.ifCond .ne 10, 3) := by decide +kernel
theorem dX6_on_7 : decode cX6_on 7 = .ok (.aload_n 0, 1) := by decide +kernel
theorem dX6_on_8 : decode cX6_on 8 = .ok (.bipush (-3), 2) := by decide +kernel
theorem dX6_on_10 : decode cX6_on 10 = .ok (.invokevirtual 120, 3) := by decide +kernel
theorem dX6_on_13 : decode cX6_on 13 = .ok (.ireturn, 1) := by decide +kernel
theorem dX6_on_14 : decode cX6_on 14 = .ok (.aload_n 0, 1) := by decide +kernel
theorem dX6_on_15 : decode cX6_on 15 = .ok (.getfield 16, 3) := by decide +kernel
theorem dX6_on_18 : decode cX6_on 18 = .ok (.aload_n 0, 1) := by decide +kernel
theorem dX6_on_19 : decode cX6_on 19 = .ok (.getfield 13, 3) := by decide +kernel
theorem dX6_on_22 : decode cX6_on 22 = .ok (.invokestatic 49, 3) := by decide +kernel
theorem dX6_on_25 : decode cX6_on 25 = .ok (.aload_n 0, 1) := by decide +kernel
theorem dX6_on_26 : decode cX6_on 26 = .ok (.getfield 13, 3) := by decide +kernel
theorem dX6_on_29 : decode cX6_on 29 = .ok (.iconst 4, 1) := by decide +kernel
theorem dX6_on_30 : decode cX6_on 30 = .ok (.iaload, 1) := by decide +kernel
theorem dX6_on_31 : decode cX6_on 31 = .ok (.ireturn, 1) := by decide +kernel
theorem dX6_bits_0 : decode cX6_bits 0 = .ok (.iconst 0, 1) := by decide +kernel
theorem dX6_bits_1 : decode cX6_bits 1 = .ok (.istore_n 1, 1) := by decide +kernel
theorem dX6_bits_2 : decode cX6_bits 2 = .ok (.iload_n 0, 1) := by decide +kernel
theorem dX6_bits_3 : decode cX6_bits 3 = .ok (.istore_n 2, 1) := by decide +kernel
theorem dX6_bits_4 : decode cX6_bits 4 = .ok (.iload_n 2, 1) := by decide +kernel
theorem dX6_bits_5 : decode cX6_bits 5 = .ok (.ifCond .le 16, 3) := by decide +kernel
theorem dX6_bits_8 : decode cX6_bits 8 = .ok (.iload_n 1, 1) := by decide +kernel
theorem dX6_bits_9 : decode cX6_bits 9 = .ok (.iload_n 2, 1) := by decide +kernel
theorem dX6_bits_10 : decode cX6_bits 10 = .ok (.iconst 1, 1) := by decide +kernel
theorem dX6_bits_11 : decode cX6_bits 11 = .ok (.iand, 1) := by decide +kernel
theorem dX6_bits_12 : decode cX6_bits 12 = .ok (.iadd, 1) := by decide +kernel
theorem dX6_bits_13 : decode cX6_bits 13 = .ok (.istore_n 1, 1) := by decide +kernel
theorem dX6_bits_14 : decode cX6_bits 14 = .ok (.iload_n 2, 1) := by decide +kernel
theorem dX6_bits_15 : decode cX6_bits 15 = .ok (.iconst 1, 1) := by decide +kernel
theorem dX6_bits_16 : decode cX6_bits 16 = .ok (.ishr, 1) := by decide +kernel
theorem dX6_bits_17 : decode cX6_bits 17 = .ok (.istore_n 2, 1) := by decide +kernel
theorem dX6_bits_18 : decode cX6_bits 18 = .ok (.goto (-14), 3) := by decide +kernel
theorem dX6_bits_21 : decode cX6_bits 21 = .ok (.iload_n 1, 1) := by decide +kernel
theorem dX6_bits_22 : decode cX6_bits 22 = .ok (.ireturn, 1) := by decide +kernel
theorem dX6_count_0 : decode cX6_count 0 = .ok (.iload_n 1, 1) := by decide +kernel
theorem dX6_count_1 : decode cX6_count 1 = .ok (.bipush 10, 2) := by decide +kernel
theorem dX6_count_3 : decode cX6_count 3 = .ok (.if_icmp .le 19, 3) := by decide +kernel
theorem dX6_count_6 : decode cX6_count 6 = .ok (.iload_n 1, 1) := by decide +kernel
theorem dX6_count_7 : decode cX6_count 7 = .ok (.bipush 17, 2) := by decide +kernel
theorem dX6_count_9 : decode cX6_count 9 = .ok (.if_icmp .ge 13, 3) := by decide +kernel
theorem dX6_count_12 : decode cX6_count 12 = .ok (.aload_n 0, 1) := by decide +kernel
theorem dX6_count_13 : decode cX6_count 13 = .ok (.getfield 7, 3) := by decide +kernel
theorem dX6_count_16 : decode cX6_count 16 = .ok (.iload_n 1, 1) := by decide +kernel
theorem dX6_count_17 : decode cX6_count 17 = .ok (.bipush 10, 2) := by decide +kernel
theorem dX6_count_19 : decode cX6_count 19 = .ok (.isub, 1) := by decide +kernel
theorem dX6_count_20 : decode cX6_count 20 = .ok (.iaload, 1) := by decide +kernel
theorem dX6_count_21 : decode cX6_count 21 = .ok (.ireturn, 1) := by decide +kernel
theorem dX6_count_22 : decode cX6_count 22 = .ok (.iconst 0, 1) := by decide +kernel
theorem dX6_count_23 : decode cX6_count 23 = .ok (.istore_n 2, 1) := by decide +kernel
theorem dX6_count_24 : decode cX6_count 24 = .ok (.iload_n 1, 1) := by decide +kernel
theorem dX6_count_25 : decode cX6_count 25 = .ok (.tableswitch 138 0 9 #[55, 62, 69, 76, 86, 86, 93, 99, 128, 133], 55) := by decide +kernel
theorem dX6_count_80 : decode cX6_count 80 = .ok (.aload_n 0, 1) := by decide +kernel
theorem dX6_count_81 : decode cX6_count 81 = .ok (.getfield 13, 3) := by decide +kernel
theorem dX6_count_84 : decode cX6_count 84 = .ok (.iconst 3, 1) := by decide +kernel
theorem dX6_count_85 : decode cX6_count 85 = .ok (.iaload, 1) := by decide +kernel
theorem dX6_count_86 : decode cX6_count 86 = .ok (.ireturn, 1) := by decide +kernel
theorem dX6_count_87 : decode cX6_count 87 = .ok (.aload_n 0, 1) := by decide +kernel
theorem dX6_count_88 : decode cX6_count 88 = .ok (.getfield 13, 3) := by decide +kernel
theorem dX6_count_91 : decode cX6_count 91 = .ok (.iconst 2, 1) := by decide +kernel
theorem dX6_count_92 : decode cX6_count 92 = .ok (.iaload, 1) := by decide +kernel
theorem dX6_count_93 : decode cX6_count 93 = .ok (.ireturn, 1) := by decide +kernel
theorem dX6_count_94 : decode cX6_count 94 = .ok (.aload_n 0, 1) := by decide +kernel
theorem dX6_count_95 : decode cX6_count 95 = .ok (.getfield 13, 3) := by decide +kernel
theorem dX6_count_98 : decode cX6_count 98 = .ok (.iconst 0, 1) := by decide +kernel
theorem dX6_count_99 : decode cX6_count 99 = .ok (.iaload, 1) := by decide +kernel
theorem dX6_count_100 : decode cX6_count 100 = .ok (.ireturn, 1) := by decide +kernel
theorem dX6_count_101 : decode cX6_count 101 = .ok (.aload_n 0, 1) := by decide +kernel
theorem dX6_count_102 : decode cX6_count 102 = .ok (.getfield 13, 3) := by decide +kernel
theorem dX6_count_105 : decode cX6_count 105 = .ok (.iconst 1, 1) := by decide +kernel
theorem dX6_count_106 : decode cX6_count 106 = .ok (.iaload, 1) := by decide +kernel
theorem dX6_count_107 : decode cX6_count 107 = .ok (.invokestatic 196, 3) := by decide +kernel
theorem dX6_count_110 : decode cX6_count 110 = .ok (.ireturn, 1) := by decide +kernel
theorem dX6_count_111 : decode cX6_count 111 = .ok (.aload_n 0, 1) := by decide +kernel
theorem dX6_count_112 : decode cX6_count 112 = .ok (.getfield 13, 3) := by decide +kernel
theorem dX6_count_115 : decode cX6_count 115 = .ok (.iload_n 1, 1) := by decide +kernel
theorem dX6_count_116 : decode cX6_count 116 = .ok (.iaload, 1) := by decide +kernel
theorem dX6_count_117 : decode cX6_count 117 = .ok (.ireturn, 1) := by decide +kernel
theorem dX6_count_118 : decode cX6_count 118 = .ok (.aload_n 0, 1) := by decide +kernel
theorem dX6_count_119 : decode cX6_count 119 = .ok (.iconst (-1), 1) := by decide +kernel
theorem dX6_count_120 : decode cX6_count 120 = .ok (.invokevirtual 106, 3) := by decide +kernel
theorem dX6_count_123 : decode cX6_count 123 = .ok (.ireturn, 1) := by decide +kernel
theorem dX6_count_124 : decode cX6_count 124 = .ok (.iconst 0, 1) := by decide +kernel
theorem dX6_count_125 : decode cX6_count 125 = .ok (.istore_n 3, 1) := by decide +kernel
theorem dX6_count_126 : decode cX6_count 126 = .ok (.iload_n 3, 1) := by decide +kernel
theorem dX6_count_127 : decode cX6_count 127 = .ok (.aload_n 0, 1) := by decide +kernel
theorem dX6_count_128 : decode cX6_count 128 = .ok (.getfield 13, 3) := by decide +kernel
theorem dX6_count_131 : decode cX6_count 131 = .ok (.iconst 3, 1) := by decide +kernel
theorem dX6_count_132 : decode cX6_count 132 = .ok (.iaload, 1) := by decide +kernel
theorem dX6_count_133 : decode cX6_count 133 = .ok (.if_icmp .ge 18, 3) := by decide +kernel
theorem dX6_count_136 : decode cX6_count 136 = .ok (.iload_n 2, 1) := by decide +kernel
theorem dX6_count_137 : decode cX6_count 137 = .ok (.aload_n 0, 1) := by decide +kernel
theorem dX6_count_138 : decode cX6_count 138 = .ok (.iload_n 3, 1) := by decide +kernel
theorem dX6_count_139 : decode cX6_count 139 = .ok (.iconst 4, 1) := by decide +kernel
theorem dX6_count_140 : decode cX6_count 140 = .ok (.invokevirtual 61, 3) := by decide +kernel
theorem dX6_count_143 : decode cX6_count 143 = .ok (.iadd, 1) := by decide +kernel
theorem dX6_count_144 : decode cX6_count 144 = .ok (.istore_n 2, 1) := by decide +kernel
theorem dX6_count_145 : decode cX6_count 145 = .ok (.iinc 3 1, 3) := by decide +kernel
theorem dX6_count_148 : decode cX6_count 148 = .ok (.goto (-22), 3) := by decide +kernel
theorem dX6_count_151 : decode cX6_count 151 = .ok (.iload_n 2, 1) := by decide +kernel
theorem dX6_count_152 : decode cX6_count 152 = .ok (.ireturn, 1) := by decide +kernel
theorem dX6_count_153 : decode cX6_count 153 = .ok (.aload_n 0, 1) := by decide +kernel
theorem dX6_count_154 : decode cX6_count 154 = .ok (.getfield 180, 3) := by decide +kernel
theorem dX6_count_157 : decode cX6_count 157 = .ok (.ireturn, 1) := by decide +kernel
theorem dX6_count_158 : decode cX6_count 158 = .ok (.aload_n 0, 1) := by decide +kernel
theorem dX6_count_159 : decode cX6_count 159 = .ok (.getfield 116, 3) := by decide +kernel
theorem dX6_count_162 : decode cX6_count 162 = .ok (.ireturn, 1) := by decide +kernel
theorem dX6_count_163 : decode cX6_count 163 = .ok (.bipush (-9), 2) := by decide +kernel
theorem dX6_count_165 : decode cX6_count 165 = .ok (.ireturn, 1) := by decide +kernel
end
section
theorem dL_law_0 : decode cL_law 0 = .ok (.new 7, 3) := by decide +kernel
theorem dL_law_3 : decode cL_law 3 = .ok (.dup, 1) := by decide +kernel
theorem dL_law_4 : decode cL_law 4 = .ok (.invokespecial 9, 3) := by decide +kernel
theorem dL_law_7 : decode cL_law 7 = .ok (.astore_n 1, 1) := by decide +kernel
theorem dL_law_8 : decode cL_law 8 = .ok (.new 10, 3) := by decide +kernel
theorem dL_law_11 : decode cL_law 11 = .ok (.dup, 1) := by decide +kernel
theorem dL_law_12 : decode cL_law 12 = .ok (.invokespecial 12, 3) := by decide +kernel
theorem dL_law_15 : decode cL_law 15 = .ok (.astore_n 2, 1) := by decide +kernel
theorem dL_law_16 : decode cL_law 16 = .ok (.iconst 0, 1) := by decide +kernel
theorem dL_law_17 : decode cL_law 17 = .ok (.istore_n 3, 1) := by decide +kernel
theorem dL_law_18 : decode cL_law 18 = .ok (.iload_n 3, 1) := by decide +kernel
theorem dL_law_19 : decode cL_law 19 = .ok (.aload_n 0, 1) := by decide +kernel
theorem dL_law_20 : decode cL_law 20 = .ok (.arraylength, 1) := by decide +kernel
theorem dL_law_21 : decode cL_law 21 = .ok (.iconst 4, 1) := by decide +kernel
theorem dL_law_22 : decode cL_law 22 = .ok (.isub, 1) := by decide +kernel
theorem dL_law_23 : decode cL_law 23 = .ok (.if_icmp .gt 988, 3) := by decide +kernel
theorem dL_law_26 : decode cL_law 26 = .ok (.aload_n 0, 1) := by decide +kernel
theorem dL_law_27 : decode cL_law 27 = .ok (.iload_n 3, 1) := by decide +kernel
theorem dL_law_28 : decode cL_law 28 = .ok (.iaload, 1) := by decide +kernel
theorem dL_law_29 : decode cL_law 29 = .ok (.bipush 31, 2) := by decide +kernel
theorem dL_law_31 : decode cL_law 31 = .ok (.iand, 1) := by decide +kernel
theorem dL_law_32 : decode cL_law 32 = .ok (.tableswitch 973 0 30 #[140, 163, 176, 209, 242, 265, 288, 321, 354, 387, 410, 423, 466, 499, 532, 545, 588, 611, 644, 677, 710, 733, 756, 779, 822, 845, 878, 891, 924, 937, 950], 140) := by decide +kernel
theorem dL_law_172 : decode cL_law 172 = .ok (.aload_n 1, 1) := by decide +kernel
theorem dL_law_173 : decode cL_law 173 = .ok (.aload_n 0, 1) := by decide +kernel
theorem dL_law_174 : decode cL_law 174 = .ok (.iload_n 3, 1) := by decide +kernel
theorem dL_law_175 : decode cL_law 175 = .ok (.iconst 1, 1) := by decide +kernel
theorem dL_law_176 : decode cL_law 176 = .ok (.iadd, 1) := by decide +kernel
theorem dL_law_177 : decode cL_law 177 = .ok (.iaload, 1) := by decide +kernel
theorem dL_law_178 : decode cL_law 178 = .ok (.invokevirtual 13, 3) := by decide +kernel
theorem dL_law_181 : decode cL_law 181 = .ok (.aload_n 2, 1) := by decide +kernel
theorem dL_law_182 : decode cL_law 182 = .ok (.aload_n 0, 1) := by decide +kernel
theorem dL_law_183 : decode cL_law 183 = .ok (.iload_n 3, 1) := by decide +kernel
theorem dL_law_184 : decode cL_law 184 = .ok (.iconst 1, 1) := by decide +kernel
theorem dL_law_185 : decode cL_law 185 = .ok (.iadd, 1) := by decide +kernel
theorem dL_law_186 : decode cL_law 186 = .ok (.iaload, 1) := by decide +kernel
theorem dL_law_187 : decode cL_law 187 = .ok (.invokevirtual 17, 3) := by decide +kernel
theorem dL_law_190 : decode cL_law 190 = .ok (.if_icmp .eq 815, 3) := by decide +kernel
theorem dL_law_193 : decode cL_law 193 = .ok (.iconst 0, 1) := by decide +kernel
theorem dL_law_194 : decode cL_law 194 = .ok (.ireturn, 1) := by decide +kernel
theorem dL_law_195 : decode cL_law 195 = .ok (.aload_n 1, 1) := by decide +kernel
theorem dL_law_196 : decode cL_law 196 = .ok (.invokevirtual 18, 3) := by decide +kernel
theorem dL_law_199 : decode cL_law 199 = .ok (.aload_n 2, 1) := by decide +kernel
theorem dL_law_200 : decode cL_law 200 = .ok (.invokevirtual 22, 3) := by decide +kernel
theorem dL_law_203 : decode cL_law 203 = .ok (.if_icmp .eq 802, 3) := by decide +kernel
theorem dL_law_206 : decode cL_law 206 = .ok (.iconst 0, 1) := by decide +kernel
theorem dL_law_207 : decode cL_law 207 = .ok (.ireturn, 1) := by decide +kernel
theorem dL_law_208 : decode cL_law 208 = .ok (.aload_n 1, 1) := by decide +kernel
theorem dL_law_209 : decode cL_law 209 = .ok (.aload_n 0, 1) := by decide +kernel
theorem dL_law_210 : decode cL_law 210 = .ok (.iload_n 3, 1) := by decide +kernel
theorem dL_law_211 : decode cL_law 211 = .ok (.iconst 1, 1) := by decide +kernel
theorem dL_law_212 : decode cL_law 212 = .ok (.iadd, 1) := by decide +kernel
theorem dL_law_213 : decode cL_law 213 = .ok (.iaload, 1) := by decide +kernel
theorem dL_law_214 : decode cL_law 214 = .ok (.aload_n 0, 1) := by decide +kernel
theorem dL_law_215 : decode cL_law 215 = .ok (.iload_n 3, 1) := by decide +kernel
theorem dL_law_216 : decode cL_law 216 = .ok (.iconst 2, 1) := by decide +kernel
theorem dL_law_217 : decode cL_law 217 = .ok (.iadd, 1) := by decide +kernel
theorem dL_law_218 : decode cL_law 218 = .ok (.iaload, 1) := by decide +kernel
theorem dL_law_219 : decode cL_law 219 = .ok (.invokevirtual 23, 3) := by decide +kernel
theorem dL_law_222 : decode cL_law 222 = .ok (.aload_n 2, 1) := by decide +kernel
theorem dL_law_223 : decode cL_law 223 = .ok (.aload_n 0, 1) := by decide +kernel
theorem dL_law_224 : decode cL_law 224 = .ok (.iload_n 3, 1) := by decide +kernel
theorem dL_law_225 : decode cL_law 225 = .ok (.iconst 1, 1) := by decide +kernel
theorem dL_law_226 : decode cL_law 226 = .ok (.iadd, 1) := by decide +kernel
theorem dL_law_227 : decode cL_law 227 = .ok (.iaload, 1) := by decide +kernel
theorem dL_law_228 : decode cL_law 228 = .ok (.aload_n 0, 1) := by decide +kernel
theorem dL_law_229 : decode cL_law 229 = .ok (.iload_n 3, 1) := by decide +kernel
theorem dL_law_230 : decode cL_law 230 = .ok (.iconst 2, 1) := by decide +kernel
theorem dL_law_231 : decode cL_law 231 = .ok (.iadd, 1) := by decide +kernel
theorem dL_law_232 : decode cL_law 232 = .ok (.iaload, 1) := by decide +kernel
theorem dL_law_233 : decode cL_law 233 = .ok (.invokevirtual 27, 3) := by decide +kernel
theorem dL_law_236 : decode cL_law 236 = .ok (.if_icmp .eq 769, 3) := by decide +kernel
theorem dL_law_239 : decode cL_law 239 = .ok (.iconst 0, 1) := by decide +kernel
theorem dL_law_240 : decode cL_law 240 = .ok (.ireturn, 1) := by decide +kernel
theorem dL_law_241 : decode cL_law 241 = .ok (.aload_n 1, 1) := by decide +kernel
theorem dL_law_242 : decode cL_law 242 = .ok (.aload_n 0, 1) := by decide +kernel
theorem dL_law_243 : decode cL_law 243 = .ok (.iload_n 3, 1) := by decide +kernel
theorem dL_law_244 : decode cL_law 244 = .ok (.iconst 1, 1) := by decide +kernel
theorem dL_law_245 : decode cL_law 245 = .ok (.iadd, 1) := by decide +kernel
theorem dL_law_246 : decode cL_law 246 = .ok (.iaload, 1) := by decide +kernel
theorem dL_law_247 : decode cL_law 247 = .ok (.aload_n 0, 1) := by decide +kernel
theorem dL_law_248 : decode cL_law 248 = .ok (.iload_n 3, 1) := by decide +kernel
theorem dL_law_249 : decode cL_law 249 = .ok (.iconst 2, 1) := by decide +kernel
theorem dL_law_250 : decode cL_law 250 = .ok (.iadd, 1) := by decide +kernel
theorem dL_law_251 : decode cL_law 251 = .ok (.iaload, 1) := by decide +kernel
theorem dL_law_252 : decode cL_law 252 = .ok (.invokevirtual 28, 3) := by decide +kernel
theorem dL_law_255 : decode cL_law 255 = .ok (.aload_n 2, 1) := by decide +kernel
theorem dL_law_256 : decode cL_law 256 = .ok (.aload_n 0, 1) := by decide +kernel
theorem dL_law_257 : decode cL_law 257 = .ok (.iload_n 3, 1) := by decide +kernel
theorem dL_law_258 : decode cL_law 258 = .ok (.iconst 1, 1) := by decide +kernel
theorem dL_law_259 : decode cL_law 259 = .ok (.iadd, 1) := by decide +kernel
theorem dL_law_260 : decode cL_law 260 = .ok (.iaload, 1) := by decide +kernel
theorem dL_law_261 : decode cL_law 261 = .ok (.aload_n 0, 1) := by decide +kernel
theorem dL_law_262 : decode cL_law 262 = .ok (.iload_n 3, 1) := by decide +kernel
theorem dL_law_263 : decode cL_law 263 = .ok (.iconst 2, 1) := by decide +kernel
theorem dL_law_264 : decode cL_law 264 = .ok (.iadd, 1) := by decide +kernel
theorem dL_law_265 : decode cL_law 265 = .ok (.iaload, 1) := by decide +kernel
theorem dL_law_266 : decode cL_law 266 = .ok (.invokevirtual 31, 3) := by decide +kernel
theorem dL_law_269 : decode cL_law 269 = .ok (.if_icmp .eq 736, 3) := by decide +kernel
theorem dL_law_272 : decode cL_law 272 = .ok (.iconst 0, 1) := by decide +kernel
theorem dL_law_273 : decode cL_law 273 = .ok (.ireturn, 1) := by decide +kernel
theorem dL_law_274 : decode cL_law 274 = .ok (.aload_n 1, 1) := by decide +kernel
theorem dL_law_275 : decode cL_law 275 = .ok (.aload_n 0, 1) := by decide +kernel
theorem dL_law_276 : decode cL_law 276 = .ok (.iload_n 3, 1) := by decide +kernel
theorem dL_law_277 : decode cL_law 277 = .ok (.iconst 1, 1) := by decide +kernel
theorem dL_law_278 : decode cL_law 278 = .ok (.iadd, 1) := by decide +kernel
theorem dL_law_279 : decode cL_law 279 = .ok (.iaload, 1) := by decide +kernel
theorem dL_law_280 : decode cL_law 280 = .ok (.invokevirtual 32, 3) := by decide +kernel
theorem dL_law_283 : decode cL_law 283 = .ok (.aload_n 2, 1) := by decide +kernel
theorem dL_law_284 : decode cL_law 284 = .ok (.aload_n 0, 1) := by decide +kernel
theorem dL_law_285 : decode cL_law 285 = .ok (.iload_n 3, 1) := by decide +kernel
theorem dL_law_286 : decode cL_law 286 = .ok (.iconst 1, 1) := by decide +kernel
theorem dL_law_287 : decode cL_law 287 = .ok (.iadd, 1) := by decide +kernel
theorem dL_law_288 : decode cL_law 288 = .ok (.iaload, 1) := by decide +kernel
theorem dL_law_289 : decode cL_law 289 = .ok (.invokevirtual 35, 3) := by decide +kernel
theorem dL_law_292 : decode cL_law 292 = .ok (.if_icmp .eq 713, 3) := by decide +kernel
theorem dL_law_295 : decode cL_law 295 = .ok (.iconst 0, 1) := by decide +kernel
theorem dL_law_296 : decode cL_law 296 = .ok (.ireturn, 1) := by decide +kernel
theorem dL_law_297 : decode cL_law 297 = .ok (.aload_n 1, 1) := by decide +kernel
theorem dL_law_298 : decode cL_law 298 = .ok (.aload_n 0, 1) := by decide +kernel
theorem dL_law_299 : decode cL_law 299 = .ok (.iload_n 3, 1) := by decide +kernel
theorem dL_law_300 : decode cL_law 300 = .ok (.iconst 1, 1) := by decide +kernel
theorem dL_law_301 : decode cL_law 301 = .ok (.iadd, 1) := by decide +kernel
theorem dL_law_302 : decode cL_law 302 = .ok (.iaload, 1) := by decide +kernel
theorem dL_law_303 : decode cL_law 303 = .ok (.invokevirtual 36, 3) := by decide +kernel
theorem dL_law_306 : decode cL_law 306 = .ok (.aload_n 2, 1) := by decide +kernel
theorem dL_law_307 : decode cL_law 307 = .ok (.aload_n 0, 1) := by decide +kernel
theorem dL_law_308 : decode cL_law 308 = .ok (.iload_n 3, 1) := by decide +kernel
theorem dL_law_309 : decode cL_law 309 = .ok (.iconst 1, 1) := by decide +kernel
theorem dL_law_310 : decode cL_law 310 = .ok (.iadd, 1) := by decide +kernel
theorem dL_law_311 : decode cL_law 311 = .ok (.iaload, 1) := by decide +kernel
theorem dL_law_312 : decode cL_law 312 = .ok (.invokevirtual 39, 3) := by decide +kernel
theorem dL_law_315 : decode cL_law 315 = .ok (.if_icmp .eq 690, 3) := by decide +kernel
theorem dL_law_318 : decode cL_law 318 = .ok (.iconst 0, 1) := by decide +kernel
theorem dL_law_319 : decode cL_law 319 = .ok (.ireturn, 1) := by decide +kernel
theorem dL_law_320 : decode cL_law 320 = .ok (.aload_n 1, 1) := by decide +kernel
theorem dL_law_321 : decode cL_law 321 = .ok (.aload_n 0, 1) := by decide +kernel
theorem dL_law_322 : decode cL_law 322 = .ok (.iload_n 3, 1) := by decide +kernel
theorem dL_law_323 : decode cL_law 323 = .ok (.iconst 1, 1) := by decide +kernel
theorem dL_law_324 : decode cL_law 324 = .ok (.iadd, 1) := by decide +kernel
theorem dL_law_325 : decode cL_law 325 = .ok (.iaload, 1) := by decide +kernel
theorem dL_law_326 : decode cL_law 326 = .ok (.aload_n 0, 1) := by decide +kernel
theorem dL_law_327 : decode cL_law 327 = .ok (.iload_n 3, 1) := by decide +kernel
theorem dL_law_328 : decode cL_law 328 = .ok (.iconst 2, 1) := by decide +kernel
theorem dL_law_329 : decode cL_law 329 = .ok (.iadd, 1) := by decide +kernel
theorem dL_law_330 : decode cL_law 330 = .ok (.iaload, 1) := by decide +kernel
theorem dL_law_331 : decode cL_law 331 = .ok (.invokevirtual 40, 3) := by decide +kernel
theorem dL_law_334 : decode cL_law 334 = .ok (.aload_n 2, 1) := by decide +kernel
theorem dL_law_335 : decode cL_law 335 = .ok (.aload_n 0, 1) := by decide +kernel
theorem dL_law_336 : decode cL_law 336 = .ok (.iload_n 3, 1) := by decide +kernel
theorem dL_law_337 : decode cL_law 337 = .ok (.iconst 1, 1) := by decide +kernel
theorem dL_law_338 : decode cL_law 338 = .ok (.iadd, 1) := by decide +kernel
theorem dL_law_339 : decode cL_law 339 = .ok (.iaload, 1) := by decide +kernel
theorem dL_law_340 : decode cL_law 340 = .ok (.aload_n 0, 1) := by decide +kernel
theorem dL_law_341 : decode cL_law 341 = .ok (.iload_n 3, 1) := by decide +kernel
theorem dL_law_342 : decode cL_law 342 = .ok (.iconst 2, 1) := by decide +kernel
theorem dL_law_343 : decode cL_law 343 = .ok (.iadd, 1) := by decide +kernel
theorem dL_law_344 : decode cL_law 344 = .ok (.iaload, 1) := by decide +kernel
theorem dL_law_345 : decode cL_law 345 = .ok (.invokevirtual 43, 3) := by decide +kernel
theorem dL_law_348 : decode cL_law 348 = .ok (.if_icmp .eq 657, 3) := by decide +kernel
theorem dL_law_351 : decode cL_law 351 = .ok (.iconst 0, 1) := by decide +kernel
theorem dL_law_352 : decode cL_law 352 = .ok (.ireturn, 1) := by decide +kernel
theorem dL_law_353 : decode cL_law 353 = .ok (.aload_n 1, 1) := by decide +kernel
theorem dL_law_354 : decode cL_law 354 = .ok (.aload_n 0, 1) := by decide +kernel
theorem dL_law_355 : decode cL_law 355 = .ok (.iload_n 3, 1) := by decide +kernel
theorem dL_law_356 : decode cL_law 356 = .ok (.iconst 1, 1) := by decide +kernel
theorem dL_law_357 : decode cL_law 357 = .ok (.iadd, 1) := by decide +kernel
theorem dL_law_358 : decode cL_law 358 = .ok (.iaload, 1) := by decide +kernel
theorem dL_law_359 : decode cL_law 359 = .ok (.aload_n 0, 1) := by decide +kernel
theorem dL_law_360 : decode cL_law 360 = .ok (.iload_n 3, 1) := by decide +kernel
theorem dL_law_361 : decode cL_law 361 = .ok (.iconst 2, 1) := by decide +kernel
theorem dL_law_362 : decode cL_law 362 = .ok (.iadd, 1) := by decide +kernel
theorem dL_law_363 : decode cL_law 363 = .ok (.iaload, 1) := by decide +kernel
theorem dL_law_364 : decode cL_law 364 = .ok (.invokevirtual 44, 3) := by decide +kernel
theorem dL_law_367 : decode cL_law 367 = .ok (.aload_n 2, 1) := by decide +kernel
theorem dL_law_368 : decode cL_law 368 = .ok (.aload_n 0, 1) := by decide +kernel
theorem dL_law_369 : decode cL_law 369 = .ok (.iload_n 3, 1) := by decide +kernel
theorem dL_law_370 : decode cL_law 370 = .ok (.iconst 1, 1) := by decide +kernel
theorem dL_law_371 : decode cL_law 371 = .ok (.iadd, 1) := by decide +kernel
theorem dL_law_372 : decode cL_law 372 = .ok (.iaload, 1) := by decide +kernel
theorem dL_law_373 : decode cL_law 373 = .ok (.aload_n 0, 1) := by decide +kernel
theorem dL_law_374 : decode cL_law 374 = .ok (.iload_n 3, 1) := by decide +kernel
theorem dL_law_375 : decode cL_law 375 = .ok (.iconst 2, 1) := by decide +kernel
theorem dL_law_376 : decode cL_law 376 = .ok (.iadd, 1) := by decide +kernel
theorem dL_law_377 : decode cL_law 377 = .ok (.iaload, 1) := by decide +kernel
theorem dL_law_378 : decode cL_law 378 = .ok (.invokevirtual 47, 3) := by decide +kernel
theorem dL_law_381 : decode cL_law 381 = .ok (.if_icmp .eq 624, 3) := by decide +kernel
theorem dL_law_384 : decode cL_law 384 = .ok (.iconst 0, 1) := by decide +kernel
theorem dL_law_385 : decode cL_law 385 = .ok (.ireturn, 1) := by decide +kernel
theorem dL_law_386 : decode cL_law 386 = .ok (.aload_n 1, 1) := by decide +kernel
theorem dL_law_387 : decode cL_law 387 = .ok (.aload_n 0, 1) := by decide +kernel
theorem dL_law_388 : decode cL_law 388 = .ok (.iload_n 3, 1) := by decide +kernel
theorem dL_law_389 : decode cL_law 389 = .ok (.iconst 1, 1) := by decide +kernel
theorem dL_law_390 : decode cL_law 390 = .ok (.iadd, 1) := by decide +kernel
theorem dL_law_391 : decode cL_law 391 = .ok (.iaload, 1) := by decide +kernel
theorem dL_law_392 : decode cL_law 392 = .ok (.aload_n 0, 1) := by decide +kernel
theorem dL_law_393 : decode cL_law 393 = .ok (.iload_n 3, 1) := by decide +kernel
theorem dL_law_394 : decode cL_law 394 = .ok (.iconst 2, 1) := by decide +kernel
theorem dL_law_395 : decode cL_law 395 = .ok (.iadd, 1) := by decide +kernel
theorem dL_law_396 : decode cL_law 396 = .ok (.iaload, 1) := by decide +kernel
theorem dL_law_397 : decode cL_law 397 = .ok (.invokevirtual 48, 3) := by decide +kernel
theorem dL_law_400 : decode cL_law 400 = .ok (.aload_n 2, 1) := by decide +kernel
theorem dL_law_401 : decode cL_law 401 = .ok (.aload_n 0, 1) := by decide +kernel
theorem dL_law_402 : decode cL_law 402 = .ok (.iload_n 3, 1) := by decide +kernel
theorem dL_law_403 : decode cL_law 403 = .ok (.iconst 1, 1) := by decide +kernel
theorem dL_law_404 : decode cL_law 404 = .ok (.iadd, 1) := by decide +kernel
theorem dL_law_405 : decode cL_law 405 = .ok (.iaload, 1) := by decide +kernel
theorem dL_law_406 : decode cL_law 406 = .ok (.aload_n 0, 1) := by decide +kernel
theorem dL_law_407 : decode cL_law 407 = .ok (.iload_n 3, 1) := by decide +kernel
theorem dL_law_408 : decode cL_law 408 = .ok (.iconst 2, 1) := by decide +kernel
theorem dL_law_409 : decode cL_law 409 = .ok (.iadd, 1) := by decide +kernel
theorem dL_law_410 : decode cL_law 410 = .ok (.iaload, 1) := by decide +kernel
theorem dL_law_411 : decode cL_law 411 = .ok (.invokevirtual 51, 3) := by decide +kernel
theorem dL_law_414 : decode cL_law 414 = .ok (.if_icmp .eq 591, 3) := by decide +kernel
theorem dL_law_417 : decode cL_law 417 = .ok (.iconst 0, 1) := by decide +kernel
theorem dL_law_418 : decode cL_law 418 = .ok (.ireturn, 1) := by decide +kernel
theorem dL_law_419 : decode cL_law 419 = .ok (.aload_n 1, 1) := by decide +kernel
theorem dL_law_420 : decode cL_law 420 = .ok (.aload_n 0, 1) := by decide +kernel
theorem dL_law_421 : decode cL_law 421 = .ok (.iload_n 3, 1) := by decide +kernel
theorem dL_law_422 : decode cL_law 422 = .ok (.iconst 1, 1) := by decide +kernel
theorem dL_law_423 : decode cL_law 423 = .ok (.iadd, 1) := by decide +kernel
theorem dL_law_424 : decode cL_law 424 = .ok (.iaload, 1) := by decide +kernel
theorem dL_law_425 : decode cL_law 425 = .ok (.invokevirtual 52, 3) := by decide +kernel
theorem dL_law_428 : decode cL_law 428 = .ok (.aload_n 2, 1) := by decide +kernel
theorem dL_law_429 : decode cL_law 429 = .ok (.aload_n 0, 1) := by decide +kernel
theorem dL_law_430 : decode cL_law 430 = .ok (.iload_n 3, 1) := by decide +kernel
theorem dL_law_431 : decode cL_law 431 = .ok (.iconst 1, 1) := by decide +kernel
theorem dL_law_432 : decode cL_law 432 = .ok (.iadd, 1) := by decide +kernel
theorem dL_law_433 : decode cL_law 433 = .ok (.iaload, 1) := by decide +kernel
theorem dL_law_434 : decode cL_law 434 = .ok (.invokevirtual 55, 3) := by decide +kernel
theorem dL_law_437 : decode cL_law 437 = .ok (.if_icmp .eq 568, 3) := by decide +kernel
theorem dL_law_440 : decode cL_law 440 = .ok (.iconst 0, 1) := by decide +kernel
theorem dL_law_441 : decode cL_law 441 = .ok (.ireturn, 1) := by decide +kernel
theorem dL_law_442 : decode cL_law 442 = .ok (.aload_n 1, 1) := by decide +kernel
theorem dL_law_443 : decode cL_law 443 = .ok (.invokevirtual 56, 3) := by decide +kernel
theorem dL_law_446 : decode cL_law 446 = .ok (.aload_n 2, 1) := by decide +kernel
theorem dL_law_447 : decode cL_law 447 = .ok (.invokevirtual 59, 3) := by decide +kernel
theorem dL_law_450 : decode cL_law 450 = .ok (.if_icmp .eq 555, 3) := by decide +kernel
theorem dL_law_453 : decode cL_law 453 = .ok (.iconst 0, 1) := by decide +kernel
theorem dL_law_454 : decode cL_law 454 = .ok (.ireturn, 1) := by decide +kernel
theorem dL_law_455 : decode cL_law 455 = .ok (.aload_n 1, 1) := by decide +kernel
theorem dL_law_456 : decode cL_law 456 = .ok (.aload_n 0, 1) := by decide +kernel
theorem dL_law_457 : decode cL_law 457 = .ok (.iload_n 3, 1) := by decide +kernel
theorem dL_law_458 : decode cL_law 458 = .ok (.iconst 1, 1) := by decide +kernel
theorem dL_law_459 : decode cL_law 459 = .ok (.iadd, 1) := by decide +kernel
theorem dL_law_460 : decode cL_law 460 = .ok (.iaload, 1) := by decide +kernel
theorem dL_law_461 : decode cL_law 461 = .ok (.aload_n 0, 1) := by decide +kernel
theorem dL_law_462 : decode cL_law 462 = .ok (.iload_n 3, 1) := by decide +kernel
theorem dL_law_463 : decode cL_law 463 = .ok (.iconst 2, 1) := by decide +kernel
theorem dL_law_464 : decode cL_law 464 = .ok (.iadd, 1) := by decide +kernel
theorem dL_law_465 : decode cL_law 465 = .ok (.iaload, 1) := by decide +kernel
theorem dL_law_466 : decode cL_law 466 = .ok (.aload_n 0, 1) := by decide +kernel
theorem dL_law_467 : decode cL_law 467 = .ok (.iload_n 3, 1) := by decide +kernel
theorem dL_law_468 : decode cL_law 468 = .ok (.iconst 3, 1) := by decide +kernel
theorem dL_law_469 : decode cL_law 469 = .ok (.iadd, 1) := by decide +kernel
theorem dL_law_470 : decode cL_law 470 = .ok (.iaload, 1) := by decide +kernel
theorem dL_law_471 : decode cL_law 471 = .ok (.invokevirtual 60, 3) := by decide +kernel
theorem dL_law_474 : decode cL_law 474 = .ok (.aload_n 2, 1) := by decide +kernel
theorem dL_law_475 : decode cL_law 475 = .ok (.aload_n 0, 1) := by decide +kernel
theorem dL_law_476 : decode cL_law 476 = .ok (.iload_n 3, 1) := by decide +kernel
theorem dL_law_477 : decode cL_law 477 = .ok (.iconst 1, 1) := by decide +kernel
theorem dL_law_478 : decode cL_law 478 = .ok (.iadd, 1) := by decide +kernel
theorem dL_law_479 : decode cL_law 479 = .ok (.iaload, 1) := by decide +kernel
theorem dL_law_480 : decode cL_law 480 = .ok (.aload_n 0, 1) := by decide +kernel
theorem dL_law_481 : decode cL_law 481 = .ok (.iload_n 3, 1) := by decide +kernel
theorem dL_law_482 : decode cL_law 482 = .ok (.iconst 2, 1) := by decide +kernel
theorem dL_law_483 : decode cL_law 483 = .ok (.iadd, 1) := by decide +kernel
theorem dL_law_484 : decode cL_law 484 = .ok (.iaload, 1) := by decide +kernel
theorem dL_law_485 : decode cL_law 485 = .ok (.aload_n 0, 1) := by decide +kernel
theorem dL_law_486 : decode cL_law 486 = .ok (.iload_n 3, 1) := by decide +kernel
theorem dL_law_487 : decode cL_law 487 = .ok (.iconst 3, 1) := by decide +kernel
theorem dL_law_488 : decode cL_law 488 = .ok (.iadd, 1) := by decide +kernel
theorem dL_law_489 : decode cL_law 489 = .ok (.iaload, 1) := by decide +kernel
theorem dL_law_490 : decode cL_law 490 = .ok (.invokevirtual 64, 3) := by decide +kernel
theorem dL_law_493 : decode cL_law 493 = .ok (.if_icmp .eq 512, 3) := by decide +kernel
theorem dL_law_496 : decode cL_law 496 = .ok (.iconst 0, 1) := by decide +kernel
theorem dL_law_497 : decode cL_law 497 = .ok (.ireturn, 1) := by decide +kernel
theorem dL_law_498 : decode cL_law 498 = .ok (.aload_n 1, 1) := by decide +kernel
theorem dL_law_499 : decode cL_law 499 = .ok (.aload_n 0, 1) := by decide +kernel
theorem dL_law_500 : decode cL_law 500 = .ok (.iload_n 3, 1) := by decide +kernel
theorem dL_law_501 : decode cL_law 501 = .ok (.iconst 1, 1) := by decide +kernel
theorem dL_law_502 : decode cL_law 502 = .ok (.iadd, 1) := by decide +kernel
theorem dL_law_503 : decode cL_law 503 = .ok (.iaload, 1) := by decide +kernel
theorem dL_law_504 : decode cL_law 504 = .ok (.aload_n 0, 1) := by decide +kernel
theorem dL_law_505 : decode cL_law 505 = .ok (.iload_n 3, 1) := by decide +kernel
theorem dL_law_506 : decode cL_law 506 = .ok (.iconst 2, 1) := by decide +kernel
theorem dL_law_507 : decode cL_law 507 = .ok (.iadd, 1) := by decide +kernel
theorem dL_law_508 : decode cL_law 508 = .ok (.iaload, 1) := by decide +kernel
theorem dL_law_509 : decode cL_law 509 = .ok (.invokevirtual 65, 3) := by decide +kernel
theorem dL_law_512 : decode cL_law 512 = .ok (.aload_n 2, 1) := by decide +kernel
theorem dL_law_513 : decode cL_law 513 = .ok (.aload_n 0, 1) := by decide +kernel
theorem dL_law_514 : decode cL_law 514 = .ok (.iload_n 3, 1) := by decide +kernel
theorem dL_law_515 : decode cL_law 515 = .ok (.iconst 1, 1) := by decide +kernel
theorem dL_law_516 : decode cL_law 516 = .ok (.iadd, 1) := by decide +kernel
theorem dL_law_517 : decode cL_law 517 = .ok (.iaload, 1) := by decide +kernel
theorem dL_law_518 : decode cL_law 518 = .ok (.aload_n 0, 1) := by decide +kernel
theorem dL_law_519 : decode cL_law 519 = .ok (.iload_n 3, 1) := by decide +kernel
theorem dL_law_520 : decode cL_law 520 = .ok (.iconst 2, 1) := by decide +kernel
theorem dL_law_521 : decode cL_law 521 = .ok (.iadd, 1) := by decide +kernel
theorem dL_law_522 : decode cL_law 522 = .ok (.iaload, 1) := by decide +kernel
theorem dL_law_523 : decode cL_law 523 = .ok (.invokevirtual 68, 3) := by decide +kernel
theorem dL_law_526 : decode cL_law 526 = .ok (.if_icmp .eq 479, 3) := by decide +kernel
theorem dL_law_529 : decode cL_law 529 = .ok (.iconst 0, 1) := by decide +kernel
theorem dL_law_530 : decode cL_law 530 = .ok (.ireturn, 1) := by decide +kernel
theorem dL_law_531 : decode cL_law 531 = .ok (.aload_n 1, 1) := by decide +kernel
theorem dL_law_532 : decode cL_law 532 = .ok (.aload_n 0, 1) := by decide +kernel
theorem dL_law_533 : decode cL_law 533 = .ok (.iload_n 3, 1) := by decide +kernel
theorem dL_law_534 : decode cL_law 534 = .ok (.iconst 1, 1) := by decide +kernel
theorem dL_law_535 : decode cL_law 535 = .ok (.iadd, 1) := by decide +kernel
theorem dL_law_536 : decode cL_law 536 = .ok (.iaload, 1) := by decide +kernel
theorem dL_law_537 : decode cL_law 537 = .ok (.aload_n 0, 1) := by decide +kernel
theorem dL_law_538 : decode cL_law 538 = .ok (.iload_n 3, 1) := by decide +kernel
theorem dL_law_539 : decode cL_law 539 = .ok (.iconst 2, 1) := by decide +kernel
theorem dL_law_540 : decode cL_law 540 = .ok (.iadd, 1) := by decide +kernel
theorem dL_law_541 : decode cL_law 541 = .ok (.iaload, 1) := by decide +kernel
theorem dL_law_542 : decode cL_law 542 = .ok (.invokevirtual 69, 3) := by decide +kernel
theorem dL_law_545 : decode cL_law 545 = .ok (.aload_n 2, 1) := by decide +kernel
theorem dL_law_546 : decode cL_law 546 = .ok (.aload_n 0, 1) := by decide +kernel
theorem dL_law_547 : decode cL_law 547 = .ok (.iload_n 3, 1) := by decide +kernel
theorem dL_law_548 : decode cL_law 548 = .ok (.iconst 1, 1) := by decide +kernel
theorem dL_law_549 : decode cL_law 549 = .ok (.iadd, 1) := by decide +kernel
theorem dL_law_550 : decode cL_law 550 = .ok (.iaload, 1) := by decide +kernel
theorem dL_law_551 : decode cL_law 551 = .ok (.aload_n 0, 1) := by decide +kernel
theorem dL_law_552 : decode cL_law 552 = .ok (.iload_n 3, 1) := by decide +kernel
theorem dL_law_553 : decode cL_law 553 = .ok (.iconst 2, 1) := by decide +kernel
theorem dL_law_554 : decode cL_law 554 = .ok (.iadd, 1) := by decide +kernel
theorem dL_law_555 : decode cL_law 555 = .ok (.iaload, 1) := by decide +kernel
theorem dL_law_556 : decode cL_law 556 = .ok (.invokevirtual 72, 3) := by decide +kernel
theorem dL_law_559 : decode cL_law 559 = .ok (.if_icmp .eq 446, 3) := by decide +kernel
theorem dL_law_562 : decode cL_law 562 = .ok (.iconst 0, 1) := by decide +kernel
theorem dL_law_563 : decode cL_law 563 = .ok (.ireturn, 1) := by decide +kernel
theorem dL_law_564 : decode cL_law 564 = .ok (.aload_n 1, 1) := by decide +kernel
theorem dL_law_565 : decode cL_law 565 = .ok (.invokevirtual 73, 3) := by decide +kernel
theorem dL_law_568 : decode cL_law 568 = .ok (.aload_n 2, 1) := by decide +kernel
theorem dL_law_569 : decode cL_law 569 = .ok (.invokevirtual 76, 3) := by decide +kernel
theorem dL_law_572 : decode cL_law 572 = .ok (.if_icmp .eq 433, 3) := by decide +kernel
theorem dL_law_575 : decode cL_law 575 = .ok (.iconst 0, 1) := by decide +kernel
theorem dL_law_576 : decode cL_law 576 = .ok (.ireturn, 1) := by decide +kernel
theorem dL_law_577 : decode cL_law 577 = .ok (.aload_n 1, 1) := by decide +kernel
theorem dL_law_578 : decode cL_law 578 = .ok (.aload_n 0, 1) := by decide +kernel
theorem dL_law_579 : decode cL_law 579 = .ok (.iload_n 3, 1) := by decide +kernel
theorem dL_law_580 : decode cL_law 580 = .ok (.iconst 1, 1) := by decide +kernel
theorem dL_law_581 : decode cL_law 581 = .ok (.iadd, 1) := by decide +kernel
theorem dL_law_582 : decode cL_law 582 = .ok (.iaload, 1) := by decide +kernel
theorem dL_law_583 : decode cL_law 583 = .ok (.aload_n 0, 1) := by decide +kernel
theorem dL_law_584 : decode cL_law 584 = .ok (.iload_n 3, 1) := by decide +kernel
theorem dL_law_585 : decode cL_law 585 = .ok (.iconst 2, 1) := by decide +kernel
theorem dL_law_586 : decode cL_law 586 = .ok (.iadd, 1) := by decide +kernel
theorem dL_law_587 : decode cL_law 587 = .ok (.iaload, 1) := by decide +kernel
theorem dL_law_588 : decode cL_law 588 = .ok (.aload_n 0, 1) := by decide +kernel
theorem dL_law_589 : decode cL_law 589 = .ok (.iload_n 3, 1) := by decide +kernel
theorem dL_law_590 : decode cL_law 590 = .ok (.iconst 3, 1) := by decide +kernel
theorem dL_law_591 : decode cL_law 591 = .ok (.iadd, 1) := by decide +kernel
theorem dL_law_592 : decode cL_law 592 = .ok (.iaload, 1) := by decide +kernel
theorem dL_law_593 : decode cL_law 593 = .ok (.invokevirtual 77, 3) := by decide +kernel
theorem dL_law_596 : decode cL_law 596 = .ok (.aload_n 2, 1) := by decide +kernel
theorem dL_law_597 : decode cL_law 597 = .ok (.aload_n 0, 1) := by decide +kernel
theorem dL_law_598 : decode cL_law 598 = .ok (.iload_n 3, 1) := by decide +kernel
theorem dL_law_599 : decode cL_law 599 = .ok (.iconst 1, 1) := by decide +kernel
theorem dL_law_600 : decode cL_law 600 = .ok (.iadd, 1) := by decide +kernel
theorem dL_law_601 : decode cL_law 601 = .ok (.iaload, 1) := by decide +kernel
theorem dL_law_602 : decode cL_law 602 = .ok (.aload_n 0, 1) := by decide +kernel
theorem dL_law_603 : decode cL_law 603 = .ok (.iload_n 3, 1) := by decide +kernel
theorem dL_law_604 : decode cL_law 604 = .ok (.iconst 2, 1) := by decide +kernel
theorem dL_law_605 : decode cL_law 605 = .ok (.iadd, 1) := by decide +kernel
theorem dL_law_606 : decode cL_law 606 = .ok (.iaload, 1) := by decide +kernel
theorem dL_law_607 : decode cL_law 607 = .ok (.aload_n 0, 1) := by decide +kernel
theorem dL_law_608 : decode cL_law 608 = .ok (.iload_n 3, 1) := by decide +kernel
theorem dL_law_609 : decode cL_law 609 = .ok (.iconst 3, 1) := by decide +kernel
theorem dL_law_610 : decode cL_law 610 = .ok (.iadd, 1) := by decide +kernel
theorem dL_law_611 : decode cL_law 611 = .ok (.iaload, 1) := by decide +kernel
theorem dL_law_612 : decode cL_law 612 = .ok (.invokevirtual 80, 3) := by decide +kernel
theorem dL_law_615 : decode cL_law 615 = .ok (.if_icmp .eq 390, 3) := by decide +kernel
theorem dL_law_618 : decode cL_law 618 = .ok (.iconst 0, 1) := by decide +kernel
theorem dL_law_619 : decode cL_law 619 = .ok (.ireturn, 1) := by decide +kernel
theorem dL_law_620 : decode cL_law 620 = .ok (.aload_n 1, 1) := by decide +kernel
theorem dL_law_621 : decode cL_law 621 = .ok (.aload_n 0, 1) := by decide +kernel
theorem dL_law_622 : decode cL_law 622 = .ok (.iload_n 3, 1) := by decide +kernel
theorem dL_law_623 : decode cL_law 623 = .ok (.iconst 1, 1) := by decide +kernel
theorem dL_law_624 : decode cL_law 624 = .ok (.iadd, 1) := by decide +kernel
theorem dL_law_625 : decode cL_law 625 = .ok (.iaload, 1) := by decide +kernel
theorem dL_law_626 : decode cL_law 626 = .ok (.invokevirtual 81, 3) := by decide +kernel
theorem dL_law_629 : decode cL_law 629 = .ok (.aload_n 2, 1) := by decide +kernel
theorem dL_law_630 : decode cL_law 630 = .ok (.aload_n 0, 1) := by decide +kernel
theorem dL_law_631 : decode cL_law 631 = .ok (.iload_n 3, 1) := by decide +kernel
theorem dL_law_632 : decode cL_law 632 = .ok (.iconst 1, 1) := by decide +kernel
theorem dL_law_633 : decode cL_law 633 = .ok (.iadd, 1) := by decide +kernel
theorem dL_law_634 : decode cL_law 634 = .ok (.iaload, 1) := by decide +kernel
theorem dL_law_635 : decode cL_law 635 = .ok (.invokevirtual 84, 3) := by decide +kernel
theorem dL_law_638 : decode cL_law 638 = .ok (.if_icmp .eq 367, 3) := by decide +kernel
theorem dL_law_641 : decode cL_law 641 = .ok (.iconst 0, 1) := by decide +kernel
theorem dL_law_642 : decode cL_law 642 = .ok (.ireturn, 1) := by decide +kernel
theorem dL_law_643 : decode cL_law 643 = .ok (.aload_n 1, 1) := by decide +kernel
theorem dL_law_644 : decode cL_law 644 = .ok (.aload_n 0, 1) := by decide +kernel
theorem dL_law_645 : decode cL_law 645 = .ok (.iload_n 3, 1) := by decide +kernel
theorem dL_law_646 : decode cL_law 646 = .ok (.iconst 1, 1) := by decide +kernel
theorem dL_law_647 : decode cL_law 647 = .ok (.iadd, 1) := by decide +kernel
theorem dL_law_648 : decode cL_law 648 = .ok (.iaload, 1) := by decide +kernel
theorem dL_law_649 : decode cL_law 649 = .ok (.aload_n 0, 1) := by decide +kernel
theorem dL_law_650 : decode cL_law 650 = .ok (.iload_n 3, 1) := by decide +kernel
theorem dL_law_651 : decode cL_law 651 = .ok (.iconst 2, 1) := by decide +kernel
theorem dL_law_652 : decode cL_law 652 = .ok (.iadd, 1) := by decide +kernel
theorem dL_law_653 : decode cL_law 653 = .ok (.iaload, 1) := by decide +kernel
theorem dL_law_654 : decode cL_law 654 = .ok (.invokevirtual 85, 3) := by decide +kernel
theorem dL_law_657 : decode cL_law 657 = .ok (.aload_n 2, 1) := by decide +kernel
theorem dL_law_658 : decode cL_law 658 = .ok (.aload_n 0, 1) := by decide +kernel
theorem dL_law_659 : decode cL_law 659 = .ok (.iload_n 3, 1) := by decide +kernel
theorem dL_law_660 : decode cL_law 660 = .ok (.iconst 1, 1) := by decide +kernel
theorem dL_law_661 : decode cL_law 661 = .ok (.iadd, 1) := by decide +kernel
theorem dL_law_662 : decode cL_law 662 = .ok (.iaload, 1) := by decide +kernel
theorem dL_law_663 : decode cL_law 663 = .ok (.aload_n 0, 1) := by decide +kernel
theorem dL_law_664 : decode cL_law 664 = .ok (.iload_n 3, 1) := by decide +kernel
theorem dL_law_665 : decode cL_law 665 = .ok (.iconst 2, 1) := by decide +kernel
theorem dL_law_666 : decode cL_law 666 = .ok (.iadd, 1) := by decide +kernel
theorem dL_law_667 : decode cL_law 667 = .ok (.iaload, 1) := by decide +kernel
theorem dL_law_668 : decode cL_law 668 = .ok (.invokevirtual 88, 3) := by decide +kernel
theorem dL_law_671 : decode cL_law 671 = .ok (.if_icmp .eq 334, 3) := by decide +kernel
theorem dL_law_674 : decode cL_law 674 = .ok (.iconst 0, 1) := by decide +kernel
theorem dL_law_675 : decode cL_law 675 = .ok (.ireturn, 1) := by decide +kernel
theorem dL_law_676 : decode cL_law 676 = .ok (.aload_n 1, 1) := by decide +kernel
theorem dL_law_677 : decode cL_law 677 = .ok (.aload_n 0, 1) := by decide +kernel
theorem dL_law_678 : decode cL_law 678 = .ok (.iload_n 3, 1) := by decide +kernel
theorem dL_law_679 : decode cL_law 679 = .ok (.iconst 1, 1) := by decide +kernel
theorem dL_law_680 : decode cL_law 680 = .ok (.iadd, 1) := by decide +kernel
theorem dL_law_681 : decode cL_law 681 = .ok (.iaload, 1) := by decide +kernel
theorem dL_law_682 : decode cL_law 682 = .ok (.aload_n 0, 1) := by decide +kernel
theorem dL_law_683 : decode cL_law 683 = .ok (.iload_n 3, 1) := by decide +kernel
theorem dL_law_684 : decode cL_law 684 = .ok (.iconst 2, 1) := by decide +kernel
theorem dL_law_685 : decode cL_law 685 = .ok (.iadd, 1) := by decide +kernel
theorem dL_law_686 : decode cL_law 686 = .ok (.iaload, 1) := by decide +kernel
theorem dL_law_687 : decode cL_law 687 = .ok (.invokevirtual 89, 3) := by decide +kernel
theorem dL_law_690 : decode cL_law 690 = .ok (.aload_n 2, 1) := by decide +kernel
theorem dL_law_691 : decode cL_law 691 = .ok (.aload_n 0, 1) := by decide +kernel
theorem dL_law_692 : decode cL_law 692 = .ok (.iload_n 3, 1) := by decide +kernel
theorem dL_law_693 : decode cL_law 693 = .ok (.iconst 1, 1) := by decide +kernel
theorem dL_law_694 : decode cL_law 694 = .ok (.iadd, 1) := by decide +kernel
theorem dL_law_695 : decode cL_law 695 = .ok (.iaload, 1) := by decide +kernel
theorem dL_law_696 : decode cL_law 696 = .ok (.aload_n 0, 1) := by decide +kernel
theorem dL_law_697 : decode cL_law 697 = .ok (.iload_n 3, 1) := by decide +kernel
theorem dL_law_698 : decode cL_law 698 = .ok (.iconst 2, 1) := by decide +kernel
theorem dL_law_699 : decode cL_law 699 = .ok (.iadd, 1) := by decide +kernel
theorem dL_law_700 : decode cL_law 700 = .ok (.iaload, 1) := by decide +kernel
theorem dL_law_701 : decode cL_law 701 = .ok (.invokevirtual 92, 3) := by decide +kernel
theorem dL_law_704 : decode cL_law 704 = .ok (.if_icmp .eq 301, 3) := by decide +kernel
theorem dL_law_707 : decode cL_law 707 = .ok (.iconst 0, 1) := by decide +kernel
theorem dL_law_708 : decode cL_law 708 = .ok (.ireturn, 1) := by decide +kernel
theorem dL_law_709 : decode cL_law 709 = .ok (.aload_n 1, 1) := by decide +kernel
theorem dL_law_710 : decode cL_law 710 = .ok (.aload_n 0, 1) := by decide +kernel
theorem dL_law_711 : decode cL_law 711 = .ok (.iload_n 3, 1) := by decide +kernel
theorem dL_law_712 : decode cL_law 712 = .ok (.iconst 1, 1) := by decide +kernel
theorem dL_law_713 : decode cL_law 713 = .ok (.iadd, 1) := by decide +kernel
theorem dL_law_714 : decode cL_law 714 = .ok (.iaload, 1) := by decide +kernel
theorem dL_law_715 : decode cL_law 715 = .ok (.aload_n 0, 1) := by decide +kernel
theorem dL_law_716 : decode cL_law 716 = .ok (.iload_n 3, 1) := by decide +kernel
theorem dL_law_717 : decode cL_law 717 = .ok (.iconst 2, 1) := by decide +kernel
theorem dL_law_718 : decode cL_law 718 = .ok (.iadd, 1) := by decide +kernel
theorem dL_law_719 : decode cL_law 719 = .ok (.iaload, 1) := by decide +kernel
theorem dL_law_720 : decode cL_law 720 = .ok (.invokevirtual 93, 3) := by decide +kernel
theorem dL_law_723 : decode cL_law 723 = .ok (.aload_n 2, 1) := by decide +kernel
theorem dL_law_724 : decode cL_law 724 = .ok (.aload_n 0, 1) := by decide +kernel
theorem dL_law_725 : decode cL_law 725 = .ok (.iload_n 3, 1) := by decide +kernel
theorem dL_law_726 : decode cL_law 726 = .ok (.iconst 1, 1) := by decide +kernel
theorem dL_law_727 : decode cL_law 727 = .ok (.iadd, 1) := by decide +kernel
theorem dL_law_728 : decode cL_law 728 = .ok (.iaload, 1) := by decide +kernel
theorem dL_law_729 : decode cL_law 729 = .ok (.aload_n 0, 1) := by decide +kernel
theorem dL_law_730 : decode cL_law 730 = .ok (.iload_n 3, 1) := by decide +kernel
theorem dL_law_731 : decode cL_law 731 = .ok (.iconst 2, 1) := by decide +kernel
theorem dL_law_732 : decode cL_law 732 = .ok (.iadd, 1) := by decide +kernel
theorem dL_law_733 : decode cL_law 733 = .ok (.iaload, 1) := by decide +kernel
theorem dL_law_734 : decode cL_law 734 = .ok (.invokevirtual 96, 3) := by decide +kernel
theorem dL_law_737 : decode cL_law 737 = .ok (.if_icmp .eq 268, 3) := by decide +kernel
theorem dL_law_740 : decode cL_law 740 = .ok (.iconst 0, 1) := by decide +kernel
theorem dL_law_741 : decode cL_law 741 = .ok (.ireturn, 1) := by decide +kernel
theorem dL_law_742 : decode cL_law 742 = .ok (.aload_n 1, 1) := by decide +kernel
theorem dL_law_743 : decode cL_law 743 = .ok (.aload_n 0, 1) := by decide +kernel
theorem dL_law_744 : decode cL_law 744 = .ok (.iload_n 3, 1) := by decide +kernel
theorem dL_law_745 : decode cL_law 745 = .ok (.iconst 1, 1) := by decide +kernel
theorem dL_law_746 : decode cL_law 746 = .ok (.iadd, 1) := by decide +kernel
theorem dL_law_747 : decode cL_law 747 = .ok (.iaload, 1) := by decide +kernel
theorem dL_law_748 : decode cL_law 748 = .ok (.invokevirtual 97, 3) := by decide +kernel
theorem dL_law_751 : decode cL_law 751 = .ok (.aload_n 2, 1) := by decide +kernel
theorem dL_law_752 : decode cL_law 752 = .ok (.aload_n 0, 1) := by decide +kernel
theorem dL_law_753 : decode cL_law 753 = .ok (.iload_n 3, 1) := by decide +kernel
theorem dL_law_754 : decode cL_law 754 = .ok (.iconst 1, 1) := by decide +kernel
theorem dL_law_755 : decode cL_law 755 = .ok (.iadd, 1) := by decide +kernel
theorem dL_law_756 : decode cL_law 756 = .ok (.iaload, 1) := by decide +kernel
theorem dL_law_757 : decode cL_law 757 = .ok (.invokevirtual 100, 3) := by decide +kernel
theorem dL_law_760 : decode cL_law 760 = .ok (.if_icmp .eq 245, 3) := by decide +kernel
theorem dL_law_763 : decode cL_law 763 = .ok (.iconst 0, 1) := by decide +kernel
theorem dL_law_764 : decode cL_law 764 = .ok (.ireturn, 1) := by decide +kernel
theorem dL_law_765 : decode cL_law 765 = .ok (.aload_n 1, 1) := by decide +kernel
theorem dL_law_766 : decode cL_law 766 = .ok (.aload_n 0, 1) := by decide +kernel
theorem dL_law_767 : decode cL_law 767 = .ok (.iload_n 3, 1) := by decide +kernel
theorem dL_law_768 : decode cL_law 768 = .ok (.iconst 1, 1) := by decide +kernel
theorem dL_law_769 : decode cL_law 769 = .ok (.iadd, 1) := by decide +kernel
theorem dL_law_770 : decode cL_law 770 = .ok (.iaload, 1) := by decide +kernel
theorem dL_law_771 : decode cL_law 771 = .ok (.invokevirtual 101, 3) := by decide +kernel
theorem dL_law_774 : decode cL_law 774 = .ok (.aload_n 2, 1) := by decide +kernel
theorem dL_law_775 : decode cL_law 775 = .ok (.aload_n 0, 1) := by decide +kernel
theorem dL_law_776 : decode cL_law 776 = .ok (.iload_n 3, 1) := by decide +kernel
theorem dL_law_777 : decode cL_law 777 = .ok (.iconst 1, 1) := by decide +kernel
theorem dL_law_778 : decode cL_law 778 = .ok (.iadd, 1) := by decide +kernel
theorem dL_law_779 : decode cL_law 779 = .ok (.iaload, 1) := by decide +kernel
theorem dL_law_780 : decode cL_law 780 = .ok (.invokevirtual 104, 3) := by decide +kernel
theorem dL_law_783 : decode cL_law 783 = .ok (.if_icmp .eq 222, 3) := by decide +kernel
theorem dL_law_786 : decode cL_law 786 = .ok (.iconst 0, 1) := by decide +kernel
theorem dL_law_787 : decode cL_law 787 = .ok (.ireturn, 1) := by decide +kernel
theorem dL_law_788 : decode cL_law 788 = .ok (.aload_n 1, 1) := by decide +kernel
theorem dL_law_789 : decode cL_law 789 = .ok (.aload_n 0, 1) := by decide +kernel
theorem dL_law_790 : decode cL_law 790 = .ok (.iload_n 3, 1) := by decide +kernel
theorem dL_law_791 : decode cL_law 791 = .ok (.iconst 1, 1) := by decide +kernel
theorem dL_law_792 : decode cL_law 792 = .ok (.iadd, 1) := by decide +kernel
theorem dL_law_793 : decode cL_law 793 = .ok (.iaload, 1) := by decide +kernel
theorem dL_law_794 : decode cL_law 794 = .ok (.invokevirtual 105, 3) := by decide +kernel
theorem dL_law_797 : decode cL_law 797 = .ok (.aload_n 2, 1) := by decide +kernel
theorem dL_law_798 : decode cL_law 798 = .ok (.aload_n 0, 1) := by decide +kernel
theorem dL_law_799 : decode cL_law 799 = .ok (.iload_n 3, 1) := by decide +kernel
theorem dL_law_800 : decode cL_law 800 = .ok (.iconst 1, 1) := by decide +kernel
theorem dL_law_801 : decode cL_law 801 = .ok (.iadd, 1) := by decide +kernel
theorem dL_law_802 : decode cL_law 802 = .ok (.iaload, 1) := by decide +kernel
theorem dL_law_803 : decode cL_law 803 = .ok (.invokevirtual 108, 3) := by decide +kernel
theorem dL_law_806 : decode cL_law 806 = .ok (.if_icmp .eq 199, 3) := by decide +kernel
theorem dL_law_809 : decode cL_law 809 = .ok (.iconst 0, 1) := by decide +kernel
theorem dL_law_810 : decode cL_law 810 = .ok (.ireturn, 1) := by decide +kernel
theorem dL_law_811 : decode cL_law 811 = .ok (.aload_n 1, 1) := by decide +kernel
theorem dL_law_812 : decode cL_law 812 = .ok (.aload_n 0, 1) := by decide +kernel
theorem dL_law_813 : decode cL_law 813 = .ok (.iload_n 3, 1) := by decide +kernel
theorem dL_law_814 : decode cL_law 814 = .ok (.iconst 1, 1) := by decide +kernel
theorem dL_law_815 : decode cL_law 815 = .ok (.iadd, 1) := by decide +kernel
theorem dL_law_816 : decode cL_law 816 = .ok (.iaload, 1) := by decide +kernel
theorem dL_law_817 : decode cL_law 817 = .ok (.aload_n 0, 1) := by decide +kernel
theorem dL_law_818 : decode cL_law 818 = .ok (.iload_n 3, 1) := by decide +kernel
theorem dL_law_819 : decode cL_law 819 = .ok (.iconst 2, 1) := by decide +kernel
theorem dL_law_820 : decode cL_law 820 = .ok (.iadd, 1) := by decide +kernel
theorem dL_law_821 : decode cL_law 821 = .ok (.iaload, 1) := by decide +kernel
theorem dL_law_822 : decode cL_law 822 = .ok (.aload_n 0, 1) := by decide +kernel
theorem dL_law_823 : decode cL_law 823 = .ok (.iload_n 3, 1) := by decide +kernel
theorem dL_law_824 : decode cL_law 824 = .ok (.iconst 3, 1) := by decide +kernel
theorem dL_law_825 : decode cL_law 825 = .ok (.iadd, 1) := by decide +kernel
theorem dL_law_826 : decode cL_law 826 = .ok (.iaload, 1) := by decide +kernel
theorem dL_law_827 : decode cL_law 827 = .ok (.invokevirtual 109, 3) := by decide +kernel
theorem dL_law_830 : decode cL_law 830 = .ok (.aload_n 2, 1) := by decide +kernel
theorem dL_law_831 : decode cL_law 831 = .ok (.aload_n 0, 1) := by decide +kernel
theorem dL_law_832 : decode cL_law 832 = .ok (.iload_n 3, 1) := by decide +kernel
theorem dL_law_833 : decode cL_law 833 = .ok (.iconst 1, 1) := by decide +kernel
theorem dL_law_834 : decode cL_law 834 = .ok (.iadd, 1) := by decide +kernel
theorem dL_law_835 : decode cL_law 835 = .ok (.iaload, 1) := by decide +kernel
theorem dL_law_836 : decode cL_law 836 = .ok (.aload_n 0, 1) := by decide +kernel
theorem dL_law_837 : decode cL_law 837 = .ok (.iload_n 3, 1) := by decide +kernel
theorem dL_law_838 : decode cL_law 838 = .ok (.iconst 2, 1) := by decide +kernel
theorem dL_law_839 : decode cL_law 839 = .ok (.iadd, 1) := by decide +kernel
theorem dL_law_840 : decode cL_law 840 = .ok (.iaload, 1) := by decide +kernel
theorem dL_law_841 : decode cL_law 841 = .ok (.aload_n 0, 1) := by decide +kernel
theorem dL_law_842 : decode cL_law 842 = .ok (.iload_n 3, 1) := by decide +kernel
theorem dL_law_843 : decode cL_law 843 = .ok (.iconst 3, 1) := by decide +kernel
theorem dL_law_844 : decode cL_law 844 = .ok (.iadd, 1) := by decide +kernel
theorem dL_law_845 : decode cL_law 845 = .ok (.iaload, 1) := by decide +kernel
theorem dL_law_846 : decode cL_law 846 = .ok (.invokevirtual 112, 3) := by decide +kernel
theorem dL_law_849 : decode cL_law 849 = .ok (.if_icmp .eq 156, 3) := by decide +kernel
theorem dL_law_852 : decode cL_law 852 = .ok (.iconst 0, 1) := by decide +kernel
theorem dL_law_853 : decode cL_law 853 = .ok (.ireturn, 1) := by decide +kernel
theorem dL_law_854 : decode cL_law 854 = .ok (.aload_n 1, 1) := by decide +kernel
theorem dL_law_855 : decode cL_law 855 = .ok (.aload_n 0, 1) := by decide +kernel
theorem dL_law_856 : decode cL_law 856 = .ok (.iload_n 3, 1) := by decide +kernel
theorem dL_law_857 : decode cL_law 857 = .ok (.iconst 1, 1) := by decide +kernel
theorem dL_law_858 : decode cL_law 858 = .ok (.iadd, 1) := by decide +kernel
theorem dL_law_859 : decode cL_law 859 = .ok (.iaload, 1) := by decide +kernel
theorem dL_law_860 : decode cL_law 860 = .ok (.invokevirtual 113, 3) := by decide +kernel
theorem dL_law_863 : decode cL_law 863 = .ok (.aload_n 2, 1) := by decide +kernel
theorem dL_law_864 : decode cL_law 864 = .ok (.aload_n 0, 1) := by decide +kernel
theorem dL_law_865 : decode cL_law 865 = .ok (.iload_n 3, 1) := by decide +kernel
theorem dL_law_866 : decode cL_law 866 = .ok (.iconst 1, 1) := by decide +kernel
theorem dL_law_867 : decode cL_law 867 = .ok (.iadd, 1) := by decide +kernel
theorem dL_law_868 : decode cL_law 868 = .ok (.iaload, 1) := by decide +kernel
theorem dL_law_869 : decode cL_law 869 = .ok (.invokevirtual 116, 3) := by decide +kernel
theorem dL_law_872 : decode cL_law 872 = .ok (.if_icmp .eq 133, 3) := by decide +kernel
theorem dL_law_875 : decode cL_law 875 = .ok (.iconst 0, 1) := by decide +kernel
theorem dL_law_876 : decode cL_law 876 = .ok (.ireturn, 1) := by decide +kernel
theorem dL_law_877 : decode cL_law 877 = .ok (.aload_n 1, 1) := by decide +kernel
theorem dL_law_878 : decode cL_law 878 = .ok (.aload_n 0, 1) := by decide +kernel
theorem dL_law_879 : decode cL_law 879 = .ok (.iload_n 3, 1) := by decide +kernel
theorem dL_law_880 : decode cL_law 880 = .ok (.iconst 1, 1) := by decide +kernel
theorem dL_law_881 : decode cL_law 881 = .ok (.iadd, 1) := by decide +kernel
theorem dL_law_882 : decode cL_law 882 = .ok (.iaload, 1) := by decide +kernel
theorem dL_law_883 : decode cL_law 883 = .ok (.aload_n 0, 1) := by decide +kernel
theorem dL_law_884 : decode cL_law 884 = .ok (.iload_n 3, 1) := by decide +kernel
theorem dL_law_885 : decode cL_law 885 = .ok (.iconst 2, 1) := by decide +kernel
theorem dL_law_886 : decode cL_law 886 = .ok (.iadd, 1) := by decide +kernel
theorem dL_law_887 : decode cL_law 887 = .ok (.iaload, 1) := by decide +kernel
theorem dL_law_888 : decode cL_law 888 = .ok (.invokevirtual 117, 3) := by decide +kernel
theorem dL_law_891 : decode cL_law 891 = .ok (.aload_n 2, 1) := by decide +kernel
theorem dL_law_892 : decode cL_law 892 = .ok (.aload_n 0, 1) := by decide +kernel
theorem dL_law_893 : decode cL_law 893 = .ok (.iload_n 3, 1) := by decide +kernel
theorem dL_law_894 : decode cL_law 894 = .ok (.iconst 1, 1) := by decide +kernel
theorem dL_law_895 : decode cL_law 895 = .ok (.iadd, 1) := by decide +kernel
theorem dL_law_896 : decode cL_law 896 = .ok (.iaload, 1) := by decide +kernel
theorem dL_law_897 : decode cL_law 897 = .ok (.aload_n 0, 1) := by decide +kernel
theorem dL_law_898 : decode cL_law 898 = .ok (.iload_n 3, 1) := by decide +kernel
theorem dL_law_899 : decode cL_law 899 = .ok (.iconst 2, 1) := by decide +kernel
theorem dL_law_900 : decode cL_law 900 = .ok (.iadd, 1) := by decide +kernel
theorem dL_law_901 : decode cL_law 901 = .ok (.iaload, 1) := by decide +kernel
theorem dL_law_902 : decode cL_law 902 = .ok (.invokevirtual 120, 3) := by decide +kernel
theorem dL_law_905 : decode cL_law 905 = .ok (.if_icmp .eq 100, 3) := by decide +kernel
theorem dL_law_908 : decode cL_law 908 = .ok (.iconst 0, 1) := by decide +kernel
theorem dL_law_909 : decode cL_law 909 = .ok (.ireturn, 1) := by decide +kernel
theorem dL_law_910 : decode cL_law 910 = .ok (.aload_n 1, 1) := by decide +kernel
theorem dL_law_911 : decode cL_law 911 = .ok (.invokevirtual 121, 3) := by decide +kernel
theorem dL_law_914 : decode cL_law 914 = .ok (.aload_n 2, 1) := by decide +kernel
theorem dL_law_915 : decode cL_law 915 = .ok (.invokevirtual 124, 3) := by decide +kernel
theorem dL_law_918 : decode cL_law 918 = .ok (.if_icmp .eq 87, 3) := by decide +kernel
theorem dL_law_921 : decode cL_law 921 = .ok (.iconst 0, 1) := by decide +kernel
theorem dL_law_922 : decode cL_law 922 = .ok (.ireturn, 1) := by decide +kernel
theorem dL_law_923 : decode cL_law 923 = .ok (.aload_n 1, 1) := by decide +kernel
theorem dL_law_924 : decode cL_law 924 = .ok (.aload_n 0, 1) := by decide +kernel
theorem dL_law_925 : decode cL_law 925 = .ok (.iload_n 3, 1) := by decide +kernel
theorem dL_law_926 : decode cL_law 926 = .ok (.iconst 1, 1) := by decide +kernel
theorem dL_law_927 : decode cL_law 927 = .ok (.iadd, 1) := by decide +kernel
theorem dL_law_928 : decode cL_law 928 = .ok (.iaload, 1) := by decide +kernel
theorem dL_law_929 : decode cL_law 929 = .ok (.aload_n 0, 1) := by decide +kernel
theorem dL_law_930 : decode cL_law 930 = .ok (.iload_n 3, 1) := by decide +kernel
theorem dL_law_931 : decode cL_law 931 = .ok (.iconst 2, 1) := by decide +kernel
theorem dL_law_932 : decode cL_law 932 = .ok (.iadd, 1) := by decide +kernel
theorem dL_law_933 : decode cL_law 933 = .ok (.iaload, 1) := by decide +kernel
theorem dL_law_934 : decode cL_law 934 = .ok (.invokevirtual 125, 3) := by decide +kernel
theorem dL_law_937 : decode cL_law 937 = .ok (.aload_n 2, 1) := by decide +kernel
theorem dL_law_938 : decode cL_law 938 = .ok (.aload_n 0, 1) := by decide +kernel
theorem dL_law_939 : decode cL_law 939 = .ok (.iload_n 3, 1) := by decide +kernel
theorem dL_law_940 : decode cL_law 940 = .ok (.iconst 1, 1) := by decide +kernel
theorem dL_law_941 : decode cL_law 941 = .ok (.iadd, 1) := by decide +kernel
theorem dL_law_942 : decode cL_law 942 = .ok (.iaload, 1) := by decide +kernel
theorem dL_law_943 : decode cL_law 943 = .ok (.aload_n 0, 1) := by decide +kernel
theorem dL_law_944 : decode cL_law 944 = .ok (.iload_n 3, 1) := by decide +kernel
theorem dL_law_945 : decode cL_law 945 = .ok (.iconst 2, 1) := by decide +kernel
theorem dL_law_946 : decode cL_law 946 = .ok (.iadd, 1) := by decide +kernel
theorem dL_law_947 : decode cL_law 947 = .ok (.iaload, 1) := by decide +kernel
theorem dL_law_948 : decode cL_law 948 = .ok (.invokevirtual 128, 3) := by decide +kernel
theorem dL_law_951 : decode cL_law 951 = .ok (.if_icmp .eq 54, 3) := by decide +kernel
theorem dL_law_954 : decode cL_law 954 = .ok (.iconst 0, 1) := by decide +kernel
theorem dL_law_955 : decode cL_law 955 = .ok (.ireturn, 1) := by decide +kernel
theorem dL_law_956 : decode cL_law 956 = .ok (.aload_n 1, 1) := by decide +kernel
theorem dL_law_957 : decode cL_law 957 = .ok (.invokevirtual 129, 3) := by decide +kernel
theorem dL_law_960 : decode cL_law 960 = .ok (.aload_n 2, 1) := by decide +kernel
theorem dL_law_961 : decode cL_law 961 = .ok (.invokevirtual 132, 3) := by decide +kernel
theorem dL_law_964 : decode cL_law 964 = .ok (.if_icmp .eq 41, 3) := by decide +kernel
theorem dL_law_967 : decode cL_law 967 = .ok (.iconst 0, 1) := by decide +kernel
theorem dL_law_968 : decode cL_law 968 = .ok (.ireturn, 1) := by decide +kernel
theorem dL_law_969 : decode cL_law 969 = .ok (.aload_n 1, 1) := by decide +kernel
theorem dL_law_970 : decode cL_law 970 = .ok (.invokevirtual 133, 3) := by decide +kernel
theorem dL_law_973 : decode cL_law 973 = .ok (.aload_n 2, 1) := by decide +kernel
theorem dL_law_974 : decode cL_law 974 = .ok (.invokevirtual 136, 3) := by decide +kernel
theorem dL_law_977 : decode cL_law 977 = .ok (.if_icmp .eq 28, 3) := by decide +kernel
theorem dL_law_980 : decode cL_law 980 = .ok (.iconst 0, 1) := by decide +kernel
theorem dL_law_981 : decode cL_law 981 = .ok (.ireturn, 1) := by decide +kernel
theorem dL_law_982 : decode cL_law 982 = .ok (.aload_n 1, 1) := by decide +kernel
theorem dL_law_983 : decode cL_law 983 = .ok (.aload_n 0, 1) := by decide +kernel
theorem dL_law_984 : decode cL_law 984 = .ok (.iload_n 3, 1) := by decide +kernel
theorem dL_law_985 : decode cL_law 985 = .ok (.iconst 1, 1) := by decide +kernel
theorem dL_law_986 : decode cL_law 986 = .ok (.iadd, 1) := by decide +kernel
theorem dL_law_987 : decode cL_law 987 = .ok (.iaload, 1) := by decide +kernel
theorem dL_law_988 : decode cL_law 988 = .ok (.invokevirtual 137, 3) := by decide +kernel
theorem dL_law_991 : decode cL_law 991 = .ok (.aload_n 2, 1) := by decide +kernel
theorem dL_law_992 : decode cL_law 992 = .ok (.aload_n 0, 1) := by decide +kernel
theorem dL_law_993 : decode cL_law 993 = .ok (.iload_n 3, 1) := by decide +kernel
theorem dL_law_994 : decode cL_law 994 = .ok (.iconst 1, 1) := by decide +kernel
theorem dL_law_995 : decode cL_law 995 = .ok (.iadd, 1) := by decide +kernel
theorem dL_law_996 : decode cL_law 996 = .ok (.iaload, 1) := by decide +kernel
theorem dL_law_997 : decode cL_law 997 = .ok (.invokevirtual 140, 3) := by decide +kernel
theorem dL_law_1000 : decode cL_law 1000 = .ok (.if_icmp .eq 5, 3) := by decide +kernel
theorem dL_law_1003 : decode cL_law 1003 = .ok (.iconst 0, 1) := by decide +kernel
theorem dL_law_1004 : decode cL_law 1004 = .ok (.ireturn, 1) := by decide +kernel
theorem dL_law_1005 : decode cL_law 1005 = .ok (.iinc 3 4, 3) := by decide +kernel
theorem dL_law_1008 : decode cL_law 1008 = .ok (.goto (-990), 3) := by decide +kernel
theorem dL_law_1011 : decode cL_law 1011 = .ok (.iconst 1, 1) := by decide +kernel
theorem dL_law_1012 : decode cL_law 1012 = .ok (.ireturn, 1) := by decide +kernel
end
section
/-! THE WALK OVER A NAMED STATE. A state is gw_H: cell number, place, value. A world gw_W: how many cells, and what each cell is. -/
abbrev gw_H : Type := Nat → Nat → Int32
abbrev gw_L : Type := List (Option Value)
abbrev gw_W : Type := Nat × (ClassId → (Nat → Nat) → (Nat → Int32) → Nat → va_E)
abbrev gw_X : Type := Program × Env × State × MethodId × Array Value × List Frame × Method × Code × va_G × ClassId
def gw_ws (V : gw_W) (cI : ClassId) (ad : Nat → Nat) (h : gw_H) : va_W := (List.range V.1).map (fun c => (ad c, V.2 cI ad (h c) c))
def gw_st (h : gw_H) (c : Nat) (f : Nat → Int32) : gw_H := fun k => if k = c then f else h k
def gw_up (h : gw_H) (c i : Nat) (x : Int32) : gw_H := gw_st h c (upd (h c) i x)
abbrev gw_R (f lo : Nat) : Room := { frames := f, cells := 0, slots := 0, locals := lo }
def gw_A (N : Nat) (ad : Nat → Nat) (sz : Nat) : Nat → Prop := fun q => (∃ c, c < N ∧ q = ad c) ∨ sz ≤ q
theorem gw_get {V : gw_W} {cI : ClassId} {ad : Nat → Nat} {h : gw_H} {c : Nat} (hc : c < V.1) : (gw_ws V cI ad h)[c]? = some (ad c, V.2 cI ad (h c) c) := by
  simp [gw_ws, List.getElem?_range hc]
theorem gw_set {V : gw_W} {cI : ClassId} {ad : Nat → Nat} {h : gw_H} {c : Nat} (f : Nat → Int32) (hc : c < V.1) : (gw_ws V cI ad h).set c (ad c, V.2 cI ad f c) = gw_ws V cI ad (gw_st h c f) := by
  refine List.ext_getElem? fun i => ?_
  by_cases hi : i < V.1
  · rw [gw_get hi, List.getElem?_set]
    by_cases hci : c = i
    · subst hci
      simp [gw_ws, hi, gw_st]
    · rw [if_neg hci, gw_get hi]
      simp [gw_st, Ne.symm hci]
  · simp [gw_ws, hi]
    
theorem gw_len {V : gw_W} {cI : ClassId} {ad : Nat → Nat} {h : gw_H} : (gw_ws V cI ad h).length = V.1 := by simp [gw_ws]
theorem gw_mem {V : gw_W} {cI : ClassId} {ad : Nat → Nat} {h : gw_H} {k : Nat} {q : Nat × va_E} (hk : (gw_ws V cI ad h)[k]? = some q) : k < V.1 ∧ q = (ad k, V.2 cI ad (h k) k) := by
  have hl : k < V.1 := by
    have := (List.getElem?_eq_some_iff.mp hk).1
    rwa [gw_len] at this
  rw [gw_get hl] at hk
  exact ⟨hl, (Option.some.inj hk).symm⟩
theorem gw_D {V : gw_W} {cI : ClassId} {ad : Nat → Nat} {h : gw_H} (h' : gw_H) {A : Nat → Prop} (hD : va_D A (gw_ws V cI ad h)) : va_D A (gw_ws V cI ad h') := by
  refine ⟨fun i j p q hi hj hpq => ?_, fun k q hk => ?_⟩
  · obtain ⟨l1, rfl⟩ := gw_mem hi
    obtain ⟨l2, rfl⟩ := gw_mem hj
    exact hD.1 i j _ _ (gw_get l1) (gw_get l2) hpq
  · obtain ⟨l1, rfl⟩ := gw_mem hk
    exact hD.2 k (ad k, V.2 cI ad (h k) k) (gw_get l1)
theorem gw_Aeq {V : gw_W} {cI : ClassId} {ad : Nat → Nat} {h : gw_H} {sz : Nat} : va_A (gw_ws V cI ad h) sz = gw_A V.1 ad sz := by
  funext q
  apply propext
  constructor
  · rintro (⟨k, e, hk⟩ | hq)
    · obtain ⟨l1, h2⟩ := gw_mem hk
      exact Or.inl ⟨k, l1, congrArg Prod.fst h2⟩
    · exact Or.inr hq
  · rintro (⟨c, hc, rfl⟩ | hq)
    · exact Or.inl ⟨c, _, gw_get hc⟩
    · exact Or.inr hq
/-! locals by their places -/
def gw_lv (ls : gw_L) : List (Nat × Value) := ls.zipIdx.filterMap (fun q => q.1.map (fun v => (q.2, v)))
theorem gw_lvm {ls : gw_L} {j : Nat} {v : Value} : (j, v) ∈ gw_lv ls ↔ ls[j]? = some (some v) := by
  simp only [gw_lv, List.mem_filterMap, Prod.exists, Option.map_eq_some_iff, List.mk_mem_zipIdx_iff_getElem?]
  constructor
  · rintro ⟨a, b, h1, x, rfl, h2⟩
    cases h2
    exact h1
  · intro h
    exact ⟨_, _, h, v, rfl, rfl⟩
def gw_lok (lsA : Array Slot) (nL : Nat) (ls : gw_L) : Prop := lsA.size = nL ∧ lv_wf lsA ∧ ∀ (i : Nat) (v : Value), ls[i]? = some (some v) → lsA[i]? = some (.val v) ∧ v.category = 1
theorem gw_lok.has {lsA : Array Slot} {nL : Nat} {ls : gw_L} (h : gw_lok lsA nL ls) : lv_has lsA nL (gw_lv ls) := ⟨h.1, h.2.1, fun q hq => (h.2.2 q.1 q.2 (gw_lvm.mp hq)).1⟩
theorem gw_lok.put {lsA lsB : Array Slot} {nL i : Nat} {ls : gw_L} {v : Value} (h : gw_lok lsA nL ls) (hv : v.category = 1) (hb : lv_has lsB nL ((i, v) :: (gw_lv ls).filter (fun q => !(q.1 == i) && !(q.1 + 1 == i && q.2.category == 2)))) : gw_lok lsB nL (ls.set i (some v)) := by
  refine ⟨hb.1, hb.2.1, fun j w hj => ?_⟩
  by_cases hji : i = j
  · subst hji
    have hl : i < ls.length := by
      have := (List.getElem?_eq_some_iff.mp hj).1
      simpa using this
    rw [List.getElem?_set_self hl] at hj
    cases hj
    exact ⟨hb.2.2 (i, v) List.mem_cons_self, hv⟩
  · rw [List.getElem?_set_ne hji] at hj
    have hc := (h.2.2 j w hj).2
    refine ⟨hb.2.2 (j, w) (List.mem_cons_of_mem _ (List.mem_filter.mpr ⟨gw_lvm.mpr hj, ?_⟩)), hc⟩
    simp [hc, Ne.symm hji]
theorem gw_args : ∀ (vs : List Value) (k j : Nat) (v : Value), (∀ w ∈ vs, w.category = 1) → vs[j]? = some v → (k + j, v) ∈ lv_args k vs
  | [], _, _, _, _, h => by simp at h
  | w :: vs, k, 0, v, hc, h => by
    simp at h
    subst h
    simp [lv_args]
  | w :: vs, k, j + 1, v, hc, h => by
    have h1 := hc w List.mem_cons_self
    rw [lv_args, if_neg (by omega)]
    have := gw_args vs (k + 1) j v (fun x hx => hc x (List.mem_cons_of_mem _ hx)) (by simpa using h)
    exact List.mem_cons_of_mem _ (by rwa [show k + (j + 1) = k + 1 + j by omega])
theorem gw_entl (vs : List Value) {n : Nat} (hc : ∀ w ∈ vs, w.category = 1) (h : (lg_sl vs).length ≤ n) (ls : gw_L) (hls : vs.map some ++ List.replicate (n - vs.length) none = ls) : gw_lok ((lg_sl vs ++ List.replicate (n - (lg_sl vs).length) Slot.unset).toArray) n ls := by
  subst hls
  have H := lv_entry vs h
  refine ⟨H.1, H.2.1, fun i v hi => ?_⟩
  by_cases hl : i < vs.length
  · rw [List.getElem?_append_left (by simpa using hl), List.getElem?_map] at hi
    have hi2 : vs[i]? = some v := by
      cases hq : vs[i]? with
      | none => rw [hq] at hi; simp at hi
      | some w => rw [hq] at hi; simp at hi; rw [hi]
    have hm := gw_args vs 0 i v hc hi2
    rw [Nat.zero_add] at hm
    exact ⟨H.2.2 (i, v) hm, hc v (List.mem_of_getElem? hi2)⟩
  · rw [List.getElem?_append_right (by simpa using hl)] at hi
    have := List.mem_of_getElem? hi
    have := List.eq_of_mem_replicate this
    cases this
def gw_sub : gw_L → gw_L → Prop
  | [], _ => True
  | none :: a, _ :: b => gw_sub a b
  | none :: a, [] => gw_sub a []
  | some v :: a, some w :: b => v = w ∧ gw_sub a b
  | some _ :: _, _ => False
theorem gw_sub.z {b : gw_L} : gw_sub [] b := by unfold gw_sub; trivial
theorem gw_sub.n {a b : gw_L} {x : Option Value} (h : gw_sub a b) : gw_sub (none :: a) (x :: b) := by unfold gw_sub; exact h
theorem gw_sub.s {a b : gw_L} {v : Value} (h : gw_sub a b) : gw_sub (some v :: a) (some v :: b) := by unfold gw_sub; exact ⟨rfl, h⟩
theorem gw_sub.at : ∀ {a b : gw_L} (_ : gw_sub a b) {i : Nat} {v : Value}, a[i]? = some (some v) → b[i]? = some (some v)
  | [], _, _, i, v, h => by simp at h
  | none :: a, w :: b, hs, i, v, h => by
    cases i with
    | zero => simp at h
    | succ i => simpa using gw_sub.at (a := a) (b := b) hs (by simpa using h)
  | none :: a, [], hs, i, v, h => by
    cases i with
    | zero => simp at h
    | succ i =>
      have := gw_sub.at (a := a) (b := []) hs (i := i) (v := v) (by simpa using h)
      simp at this
  | some x :: a, some w :: b, hs, i, v, h => by
    cases i with
    | zero => simp at h; subst h; simp [hs.1]
    | succ i => simpa using gw_sub.at (a := a) (b := b) hs.2 (by simpa using h)
  | some x :: a, none :: b, hs, i, v, h => hs.elim
  | some x :: a, [], hs, i, v, h => hs.elim
/-! words that every contract asks: the law's own words; nest mates; strings -/
def gw_U (y : MethodName) (cc : ByteArray) (n : Nat) (ret : Option FieldType) : List Cond := .code y cc n ret :: gw_W0
theorem gw_goodU : GoodIn gw_W0 gw_W0 := fun w hw => ⟨hw, good_of_word (List.mem_filter.mp hw).2⟩
theorem gw_isNest.warm {w : Cond} {s U : State} (hn : gw_isNest w = true) (hW : s.WarmedH U.vm) (h : va_Nw w s) : va_Nw w U := by
  unfold gw_isNest at hn
  split at hn
  · exact va_Nw.warmF hW h
  · exact va_Nw.warmM hW h
  · cases hn
theorem gw_isNest.same {w : Cond} {u U : State} (hn : gw_isNest w = true) (hv : u.vm = U.vm) (h : va_Nw w u) : va_Nw w U := by
  unfold gw_isNest at hn
  split at hn
  · exact va_Nw.same rfl hv h
  · exact va_Nw.same rfl hv h
  · cases hn
def gw_N (U : State) : Prop := ∀ w ∈ gw_nest, va_Nw w U
theorem gw_N.warm {s U : State} (hW : s.WarmedH U.vm) (h : gw_N s) : gw_N U := fun w hw => gw_isNest.warm (List.mem_filter.mp hw).2 hW (h w hw)
theorem gw_N.same {u U : State} (hv : u.vm = U.vm) (h : gw_N u) : gw_N U := fun w hw => gw_isNest.same (List.mem_filter.mp hw).2 hv (h w hw)
/-! the two String constants, and String's static: they lie outside every world; their addresses are ad's at 1000 and 1010 on -/
def gw_len2 : List Nat := [6, 6]
def gw_byt2 : List (List Int32) := [[115, 108, 113, 99, 106, 104], [104, 119, 100, 116, 98, 121]]
def gw_S (ad : Nat → Nat) (A : Nat → Prop) (U : State) (H : Heap) : Prop := vk_S 2 gw_len2 gw_byt2 (fun i => ad (1000 + i)) (fun i => ad (1010 + i)) A U H ∧ vk_R "SongThatStays$Text" 34 "slqcjh" (ad (1000 + 0)) U ∧ vk_R "SongThatStays$Text" 36 "hwdtby" (ad (1000 + 1)) U ∧ va_Z "java/lang/String" "COMPACT_STRINGS" "Z" (.int 1) A U H
theorem gw_S.warm {ad : Nat → Nat} {A : Nat → Prop} {s U : State} {H : Heap} (hW : s.WarmedH U.vm) (h : gw_S ad A s H) : gw_S ad A U H :=
  ⟨h.1.moved hW.alike, vk_R.warm hW h.2.1, vk_R.warm hW h.2.2.1, h.2.2.2.moved hW.alike⟩
theorem gw_S.same {ad : Nat → Nat} {A : Nat → Prop} {u U : State} {H : Heap} (hv : u.vm = U.vm) (h : gw_S ad A u H) : gw_S ad A U H :=
  ⟨h.1.moved (hv ▸ Vm.Alike.refl u.vm), vk_R.same hv.symm h.2.1, vk_R.same hv.symm h.2.2.1, h.2.2.2.moved (hv ▸ Vm.Alike.refl u.vm)⟩
theorem gw_S.kept {ad : Nat → Nat} {A : Nat → Prop} {U : State} {H H1 : Heap} (h : gw_S ad A U H) (hq : ∀ a : Nat, a < H.size → ¬ A a → H1[a]? = H[a]?) : gw_S ad A U H1 :=
  ⟨h.1.kept hq, h.2.1, h.2.2.1, h.2.2.2.kept hq⟩
theorem gw_S.narrow {ad : Nat → Nat} {A B : Nat → Prop} {U : State} {H : Heap} (h : gw_S ad A U H) (hAB : ∀ q, B q → A q) : gw_S ad B U H :=
  ⟨h.1.narrow hAB, h.2.1, h.2.2.1, h.2.2.2.narrow hAB⟩
def gw_E (ad : Nat → Nat) (A : Nat → Prop) (U : State) (H : Heap) : Prop := gw_N U ∧ gw_S ad A U H
theorem gw_E.warm {ad : Nat → Nat} {A : Nat → Prop} {s U : State} {H : Heap} (hW : s.WarmedH U.vm) (h : gw_E ad A s H) : gw_E ad A U H := ⟨h.1.warm hW, h.2.warm hW⟩
theorem gw_E.same {ad : Nat → Nat} {A : Nat → Prop} {u U : State} {H : Heap} (hv : u.vm = U.vm) (h : gw_E ad A u H) : gw_E ad A U H := ⟨h.1.same hv, h.2.same hv⟩
theorem gw_E.kept {ad : Nat → Nat} {A : Nat → Prop} {U : State} {H H1 : Heap} (h : gw_E ad A U H) (hq : ∀ a : Nat, a < H.size → ¬ A a → H1[a]? = H[a]?) : gw_E ad A U H1 := ⟨h.1, h.2.kept hq⟩
theorem gw_E.narrow {ad : Nat → Nat} {A B : Nat → Prop} {U : State} {H : Heap} (h : gw_E ad A U H) (hAB : ∀ q, B q → A q) : gw_E ad B U H := ⟨h.1, h.2.narrow hAB⟩
/-! a contract over a world: its start and its end -/
def gw_Pre (V : gw_W) (ad : Nat → Nat) (D : va_G) (cI : ClassId) (h : gw_H) (sz : Nat) (U : State) : Prop :=
  U.heap.size = sz ∧ va_P D vwCl (gw_ws V cI ad h) U.heap ∧ va_K D vwCl [(cI, .int)] U ∧ va_D (fun _ => True) (gw_ws V cI ad h) ∧ gw_E ad (gw_A V.1 ad sz) U U.heap
def gw_B (V : gw_W) (ad : Nat → Nat) (D : va_G) (cI : ClassId) : gw_H → State → Prop := fun u t => va_P D vwCl (gw_ws V cI ad u) t.heap
def gw_Q (V : gw_W) (ad : Nat → Nat) (D : va_G) (cI : ClassId) (sz : Nat) (ret : Option FieldType) (Qp : Int32 → gw_H → Prop) : Array Value → State → Outcome → State → Prop :=
  match ret with
  | none => va_Qv (fun u => Qp 0 u) (gw_B V ad D cI) (gw_A V.1 ad sz)
  | some _ => va_Qi Qp (gw_B V ad D cI) (gw_A V.1 ad sz)
/-- the contract of a method that makes nothing: from the state h with the arguments av it returns, answer and new state are of Qp -/
def gw_C (l : Launch) (y : MethodName) (cc : ByteArray) (n : Nat) (ret : Option FieldType) (f lo : Nat) (V : gw_W) (ad : Nat → Nat) (av : List Value) (h : gw_H) (Qp : Int32 → gw_H → Prop) : Prop :=
  ∀ (D : va_G) (cI : ClassId) (sz : Nat), Met l y (gw_U y cc n ret) (gw_R f lo) (va_Pc av (gw_Pre V ad D cI h sz)) (gw_Q V ad D cI sz ret Qp) 0 0 (gw_A V.1 ad sz)
theorem gw_blind {V : gw_W} {ad : Nat → Nat} {D : va_G} {cI : ClassId} {h : gw_H} {sz : Nat} {av : List Value} : FrameBlind (va_Pc av (gw_Pre V ad D cI h sz)) :=
  fun a U g mk q => ⟨q.1, q.2.1, q.2.2.1, va_K.moved (u := U) (U := U.calling g mk a) (Vm.Alike.refl U.vm) q.2.2.2.1, q.2.2.2.2.1, gw_E.same (u := U) (U := U.calling g mk a) rfl q.2.2.2.2.2⟩
/-- what holds in the walk of one method -/
def gw_OK (l : Launch) (V : gw_W) (ad : Nat → Nat) (cc : ByteArray) (own : String) (nL : Nat) (ret : Option FieldType) : gw_X → Prop
  | (p, e, s, m, args, below, meth, c, D, cI) => p.tables.exec = Jvm.exec ∧ c.code = cc ∧ c.maxLocals = nL ∧ s.vm.findClass own = some m.cls ∧ (∀ w ∈ gw_W0, w.before args s = true) ∧ meth.sig.returnType = ret ∧ meth.locks = false ∧ va_K D vwCl [(cI, .int)] s ∧ gw_E ad (gw_A V.1 ad s.heap.size) s s.heap ∧ GoodIn gw_W0 gw_W0
def gw_G (l : Launch) (V : gw_W) (ad : Nat → Nat) (cc : ByteArray) (own : String) (nL : Nat) (ret : Option FieldType) (f lo : Nat) (Qp : Int32 → gw_H → Prop) (X : gw_X) (h : gw_H) (pc : Nat) (ls : gw_L) (st : List Value) : Prop :=
  match X with
  | (p, e, s, m, args, below, meth, c, D, cI) => gw_OK l V ad cc own nL ret (p, e, s, m, args, below, meth, c, D, cI) → ∀ (H : Heap) (locs : List Loc) (lsA : Array Slot), va_P D vwCl (gw_ws V cI ad h) H → va_D (gw_A V.1 ad s.heap.size) (gw_ws V cI ad h) → va_S (gw_A V.1 ad s.heap.size) s.heap H locs → gw_lok lsA nL ls →
      W p l e (gw_R f lo) s m args below meth c H locs 0 0 (MQ below (gw_Q V ad D cI s.heap.size ret Qp) args s 0 0 (gw_A V.1 ad s.heap.size)) (F0 m pc lsA st)
theorem gw_entry {l : Launch} {V : gw_W} {ad : Nat → Nat} {y : MethodName} {cc : ByteArray} {own : String} {n : Nat} {ret : Option FieldType} {f lo : Nat} {av : List Value} {h : gw_H} {Qp : Int32 → gw_H → Prop} (ls : gw_L) (hy : plainName y.cls = true) (ho : y.cls = own) (hcat0 : av.all (fun w => decide (w.category = 1)) = true) (hlen : (lg_sl av).length ≤ n) (hls : av.map some ++ List.replicate (n - av.length) none = ls)
    (k : ∀ X : gw_X, gw_G l V ad cc own n ret f lo Qp X h 0 ls []) : gw_C l y cc n ret f lo V ad av h Qp := by
  intro D cI sz
  subst ho
  have hcat : ∀ w ∈ av, w.category = 1 := fun w hw => of_decide_eq_true (List.all_eq_true.mp hcat0 w hw)
  refine Met.ofW (cc := cc) (maxL := n) (ret := ret) hy rfl ?_
  intro p e s m args below meth c s₁ B hml hv
  obtain ⟨rfl, hsz, hP, hK, hD0, hE⟩ := hv
  subst hsz
  have hts := atoms_spec (ws := gw_U y cc n ret) B.pre
  have hown : s.vm.findClass y.cls = some m.cls := findClass_of_methodNamed B.named
  have hD : va_D (gw_A V.1 ad s.heap.size) (gw_ws V cI ad h) := by
    have := hD0.self (sz := s.heap.size)
    rwa [gw_Aeq] at this
  have hl := gw_entl av hcat hlen ls hls
  rw [lg_entry_eq]
  exact k (p, e, s, m, av.toArray, below, meth, c, D, cI) ⟨B.exec, B.bytes, hml, hown, fun w hw => hts w (List.mem_cons_of_mem _ hw), B.returns, B.notSynchronized, hK, hE, gw_goodU⟩ s.heap [] _ hP hD va_S.rf hl
section GWR
variable {l : Launch} {V : gw_W} {ad : Nat → Nat} {cc : ByteArray} {own : String} {nL : Nat} {ret : Option FieldType} {f lo : Nat} {Qp : Int32 → gw_H → Prop} {X : gw_X} {h : gw_H} {pc : Nat} {ls : gw_L} {st : List Value}
/-- a row of the kit that keeps the heap -/
theorem gw_keep {pc' : Nat} {st' : List Value} (hr : ∀ (p : Program) (e : Env) (s : State) (m : MethodId) (args : Array Value) (below : List Frame) (meth : Method) (c : Code) (D : va_G) (cI : ClassId), gw_OK l V ad cc own nL ret (p, e, s, m, args, below, meth, c, D, cI) → ∀ (H : Heap) (locs : List Loc) (lsA : Array Slot) (Q : State → Prop), va_P D vwCl (gw_ws V cI ad h) H → gw_lok lsA nL ls → W p l e (gw_R f lo) s m args below meth c H locs 0 0 Q (F0 m pc' lsA st') → W p l e (gw_R f lo) s m args below meth c H locs 0 0 Q (F0 m pc lsA st))
    (k : gw_G l V ad cc own nL ret f lo Qp X h pc' ls st') : gw_G l V ad cc own nL ret f lo Qp X h pc ls st := by
  obtain ⟨p, e, s, m, args, below, meth, c, D, cI⟩ := X
  intro ok H locs lsA hP hD hS hl
  exact hr p e s m args below meth c D cI ok H locs lsA _ hP hl (k ok H locs lsA hP hD hS hl)
theorem gw_iconst {n : Int} {v : Int32} (hdg : decode cc pc = .ok (.iconst n, 1)) (hv : Int32.ofInt n = v) (k : gw_G l V ad cc own nL ret f lo Qp X h (pc + 1) ls (.int v :: st)) : gw_G l V ad cc own nL ret f lo Qp X h pc ls st :=
  gw_keep (fun _ _ _ _ _ _ _ _ _ _ ok _ _ _ _ _ _ w => lv_iconst ok.1 ok.2.1 hdg hv w) k
theorem gw_bipush {n : Int} {v : Int32} (hdg : decode cc pc = .ok (.bipush n, 2)) (hv : (Int8.ofInt n).toInt32 = v) (k : gw_G l V ad cc own nL ret f lo Qp X h (pc + 2) ls (.int v :: st)) : gw_G l V ad cc own nL ret f lo Qp X h pc ls st :=
  gw_keep (fun _ _ _ _ _ _ _ _ _ _ ok _ _ _ _ _ _ w => lv_bipush ok.1 ok.2.1 hdg hv w) k
theorem gw_sipush {n : Int} {v : Int32} (hdg : decode cc pc = .ok (.sipush n, 3)) (hv : (Int16.ofInt n).toInt32 = v) (k : gw_G l V ad cc own nL ret f lo Qp X h (pc + 3) ls (.int v :: st)) : gw_G l V ad cc own nL ret f lo Qp X h pc ls st :=
  gw_keep (fun _ _ _ _ _ _ _ _ _ _ ok _ _ _ _ _ _ w => lv_sipush ok.1 ok.2.1 hdg hv w) k
theorem gw_ldc {i : Nat} {v : Int32} (hdg : decode cc pc = .ok (.ldc i, 2)) (hw : Cond.constant own i v ∈ gw_W0) (k : gw_G l V ad cc own nL ret f lo Qp X h (pc + 2) ls (.int v :: st)) : gw_G l V ad cc own nL ret f lo Qp X h pc ls st :=
  gw_keep (fun _ _ _ _ _ _ _ _ _ _ ok _ _ _ _ _ _ w => lv_ldc ok.1 ok.2.1 ok.2.2.2.1 (ok.2.2.2.2.1 _ hw) hdg w) k
theorem gw_iload_n {k : Fin 4} {i : Nat} {x : Int32} (hdg : decode cc pc = .ok (.iload_n k, 1)) (hi : (k : Nat) = i) (hx : ls[i]? = some (some (.int x))) (kk : gw_G l V ad cc own nL ret f lo Qp X h (pc + 1) ls (.int x :: st)) : gw_G l V ad cc own nL ret f lo Qp X h pc ls st :=
  gw_keep (fun _ _ _ _ _ _ _ _ _ _ ok _ _ _ _ _ hl w => lv_iload_n ok.1 ok.2.1 hdg hi (hl.2.2 _ _ hx).1 w) kk
theorem gw_iload {i : Nat} {x : Int32} (hdg : decode cc pc = .ok (.iload i, 2)) (hx : ls[i]? = some (some (.int x))) (kk : gw_G l V ad cc own nL ret f lo Qp X h (pc + 2) ls (.int x :: st)) : gw_G l V ad cc own nL ret f lo Qp X h pc ls st :=
  gw_keep (fun _ _ _ _ _ _ _ _ _ _ ok _ _ _ _ _ hl w => lv_iload ok.1 ok.2.1 hdg (hl.2.2 _ _ hx).1 w) kk
theorem gw_aload_n {k : Fin 4} {i : Nat} {x : Nat} (hdg : decode cc pc = .ok (.aload_n k, 1)) (hi : (k : Nat) = i) (hx : ls[i]? = some (some (.ref x))) (kk : gw_G l V ad cc own nL ret f lo Qp X h (pc + 1) ls (.ref x :: st)) : gw_G l V ad cc own nL ret f lo Qp X h pc ls st :=
  gw_keep (fun _ _ _ _ _ _ _ _ _ _ ok _ _ _ _ _ hl w => lv_aload_n ok.1 ok.2.1 hdg hi (hl.2.2 _ _ hx).1 w) kk
theorem gw_iadd {x y : Int32} (hdg : decode cc pc = .ok (.iadd, 1)) (kk : gw_G l V ad cc own nL ret f lo Qp X h (pc + 1) ls (.int (x + y) :: st)) : gw_G l V ad cc own nL ret f lo Qp X h pc ls (.int y :: .int x :: st) :=
  gw_keep (fun _ _ _ _ _ _ _ _ _ _ ok _ _ _ _ _ _ w => lv_iadd ok.1 ok.2.1 hdg w) kk
theorem gw_isub {x y : Int32} (hdg : decode cc pc = .ok (.isub, 1)) (kk : gw_G l V ad cc own nL ret f lo Qp X h (pc + 1) ls (.int (x - y) :: st)) : gw_G l V ad cc own nL ret f lo Qp X h pc ls (.int y :: .int x :: st) :=
  gw_keep (fun _ _ _ _ _ _ _ _ _ _ ok _ _ _ _ _ _ w => lv_isub ok.1 ok.2.1 hdg w) kk
theorem gw_imul {x y : Int32} (hdg : decode cc pc = .ok (.imul, 1)) (kk : gw_G l V ad cc own nL ret f lo Qp X h (pc + 1) ls (.int (x * y) :: st)) : gw_G l V ad cc own nL ret f lo Qp X h pc ls (.int y :: .int x :: st) :=
  gw_keep (fun _ _ _ _ _ _ _ _ _ _ ok _ _ _ _ _ _ w => lv_imul ok.1 ok.2.1 hdg w) kk
theorem gw_iand {x y : Int32} (hdg : decode cc pc = .ok (.iand, 1)) (kk : gw_G l V ad cc own nL ret f lo Qp X h (pc + 1) ls (.int (x &&& y) :: st)) : gw_G l V ad cc own nL ret f lo Qp X h pc ls (.int y :: .int x :: st) :=
  gw_keep (fun _ _ _ _ _ _ _ _ _ _ ok _ _ _ _ _ _ w => lv_iand ok.1 ok.2.1 hdg w) kk
theorem gw_ior {x y : Int32} (hdg : decode cc pc = .ok (.ior, 1)) (kk : gw_G l V ad cc own nL ret f lo Qp X h (pc + 1) ls (.int (x ||| y) :: st)) : gw_G l V ad cc own nL ret f lo Qp X h pc ls (.int y :: .int x :: st) :=
  gw_keep (fun _ _ _ _ _ _ _ _ _ _ ok _ _ _ _ _ _ w => lv_ior ok.1 ok.2.1 hdg w) kk
theorem gw_ixor {x y : Int32} (hdg : decode cc pc = .ok (.ixor, 1)) (kk : gw_G l V ad cc own nL ret f lo Qp X h (pc + 1) ls (.int (x ^^^ y) :: st)) : gw_G l V ad cc own nL ret f lo Qp X h pc ls (.int y :: .int x :: st) :=
  gw_keep (fun _ _ _ _ _ _ _ _ _ _ ok _ _ _ _ _ _ w => lv_ixor ok.1 ok.2.1 hdg w) kk
theorem gw_ishl {x y : Int32} (hdg : decode cc pc = .ok (.ishl, 1)) (kk : gw_G l V ad cc own nL ret f lo Qp X h (pc + 1) ls (.int (x <<< (y &&& 31)) :: st)) : gw_G l V ad cc own nL ret f lo Qp X h pc ls (.int y :: .int x :: st) :=
  gw_keep (fun _ _ _ _ _ _ _ _ _ _ ok _ _ _ _ _ _ w => lv_ishl ok.1 ok.2.1 hdg w) kk
theorem gw_ishr {x y : Int32} (hdg : decode cc pc = .ok (.ishr, 1)) (kk : gw_G l V ad cc own nL ret f lo Qp X h (pc + 1) ls (.int (x >>> (y &&& 31)) :: st)) : gw_G l V ad cc own nL ret f lo Qp X h pc ls (.int y :: .int x :: st) :=
  gw_keep (fun _ _ _ _ _ _ _ _ _ _ ok _ _ _ _ _ _ w => lv_ishr ok.1 ok.2.1 hdg w) kk
theorem gw_idiv {x y : Int32} (hdg : decode cc pc = .ok (.idiv, 1)) (hne : ¬ y = 0) (kk : gw_G l V ad cc own nL ret f lo Qp X h (pc + 1) ls (.int (x / y) :: st)) : gw_G l V ad cc own nL ret f lo Qp X h pc ls (.int y :: .int x :: st) :=
  gw_keep (fun _ _ _ _ _ _ _ _ _ _ ok _ _ _ _ _ _ w => lv_idiv ok.1 ok.2.1 hdg hne w) kk
theorem gw_irem {x y : Int32} (hdg : decode cc pc = .ok (.irem, 1)) (hne : ¬ y = 0) (kk : gw_G l V ad cc own nL ret f lo Qp X h (pc + 1) ls (.int (x - x / y * y) :: st)) : gw_G l V ad cc own nL ret f lo Qp X h pc ls (.int y :: .int x :: st) :=
  gw_keep (fun _ _ _ _ _ _ _ _ _ _ ok _ _ _ _ _ _ w => lv_irem ok.1 ok.2.1 hdg hne w) kk
theorem gw_ineg {x : Int32} (hdg : decode cc pc = .ok (.ineg, 1)) (kk : gw_G l V ad cc own nL ret f lo Qp X h (pc + 1) ls (.int (-x) :: st)) : gw_G l V ad cc own nL ret f lo Qp X h pc ls (.int x :: st) :=
  gw_keep (fun _ _ _ _ _ _ _ _ _ _ ok _ _ _ _ _ _ w => lv_ineg ok.1 ok.2.1 hdg w) kk
theorem gw_i2c {x v : Int32} (hdg : decode cc pc = .ok (.i2c, 1)) (hv : (x.toUInt32 % 65536).toInt32 = v) (kk : gw_G l V ad cc own nL ret f lo Qp X h (pc + 1) ls (.int v :: st)) : gw_G l V ad cc own nL ret f lo Qp X h pc ls (.int x :: st) :=
  gw_keep (fun _ _ _ _ _ _ _ _ _ _ ok _ _ _ _ _ _ w => lv_i2c ok.1 ok.2.1 hdg hv w) kk
theorem gw_dup {va : Value} (hdg : decode cc pc = .ok (.dup, 1)) (hva : va.category = 1) (kk : gw_G l V ad cc own nL ret f lo Qp X h (pc + 1) ls (va :: va :: st)) : gw_G l V ad cc own nL ret f lo Qp X h pc ls (va :: st) :=
  gw_keep (fun _ _ _ _ _ _ _ _ _ _ ok _ _ _ _ _ _ w => lv_dup ok.1 ok.2.1 hdg hva w) kk
theorem gw_pop {va : Value} (hdg : decode cc pc = .ok (.pop, 1)) (hva : va.category = 1) (kk : gw_G l V ad cc own nL ret f lo Qp X h (pc + 1) ls st) : gw_G l V ad cc own nL ret f lo Qp X h pc ls (va :: st) :=
  gw_keep (fun _ _ _ _ _ _ _ _ _ _ ok _ _ _ _ _ _ w => lv_pop ok.1 ok.2.1 hdg hva w) kk
theorem gw_dup2 {va vb : Value} (hdg : decode cc pc = .ok (.dup2, 1)) (hva : va.category = 1) (hvb : vb.category = 1) (kk : gw_G l V ad cc own nL ret f lo Qp X h (pc + 1) ls (va :: vb :: va :: vb :: st)) : gw_G l V ad cc own nL ret f lo Qp X h pc ls (va :: vb :: st) :=
  gw_keep (fun _ _ _ _ _ _ _ _ _ _ ok _ _ _ _ _ _ w => lv_dup2_11 ok.1 ok.2.1 hdg hva hvb w) kk
theorem gw_goto {off : Int} {tgt : Nat} (hdg : decode cc pc = .ok (.goto off, 3)) (ht : (pc : Int) + off = (tgt : Int)) (kk : gw_G l V ad cc own nL ret f lo Qp X h tgt ls st) : gw_G l V ad cc own nL ret f lo Qp X h pc ls st :=
  gw_keep (fun _ _ _ _ _ _ _ _ _ _ ok _ _ _ _ _ _ w => lv_goto ok.1 ok.2.1 hdg ht w) kk
end GWR
end
section
section GWR
variable {l : Launch} {V : gw_W} {ad : Nat → Nat} {cc : ByteArray} {own : String} {nL : Nat} {ret : Option FieldType} {f lo : Nat} {Qp : Int32 → gw_H → Prop} {X : gw_X} {h : gw_H} {pc : Nat} {ls : gw_L} {st : List Value}
theorem gw_if_eq {x : Int32} {off : Int} {tgt : Nat} (hdg : decode cc pc = .ok (.ifCond .eq off, 3)) (ht : (pc : Int) + off = (tgt : Int)) (kt : x = 0 → gw_G l V ad cc own nL ret f lo Qp X h tgt ls st) (kf : ¬ x = 0 → gw_G l V ad cc own nL ret f lo Qp X h (pc + 3) ls st) : gw_G l V ad cc own nL ret f lo Qp X h pc ls (.int x :: st) := by
  obtain ⟨p, e, s, m, args, below, meth, c, D, cI⟩ := X
  intro ok H locs lsA hP hD hS hl
  exact lv_if_eq ok.1 ok.2.1 hdg ht (fun q => kt q ok H locs lsA hP hD hS hl) (fun q => kf q ok H locs lsA hP hD hS hl)
theorem gw_if_ne {x : Int32} {off : Int} {tgt : Nat} (hdg : decode cc pc = .ok (.ifCond .ne off, 3)) (ht : (pc : Int) + off = (tgt : Int)) (kt : ¬ x = 0 → gw_G l V ad cc own nL ret f lo Qp X h tgt ls st) (kf : x = 0 → gw_G l V ad cc own nL ret f lo Qp X h (pc + 3) ls st) : gw_G l V ad cc own nL ret f lo Qp X h pc ls (.int x :: st) := by
  obtain ⟨p, e, s, m, args, below, meth, c, D, cI⟩ := X
  intro ok H locs lsA hP hD hS hl
  exact lv_if_ne ok.1 ok.2.1 hdg ht (fun q => kt q ok H locs lsA hP hD hS hl) (fun q => kf q ok H locs lsA hP hD hS hl)
theorem gw_if_lt {x : Int32} {off : Int} {tgt : Nat} (hdg : decode cc pc = .ok (.ifCond .lt off, 3)) (ht : (pc : Int) + off = (tgt : Int)) (kt : x < 0 → gw_G l V ad cc own nL ret f lo Qp X h tgt ls st) (kf : ¬ x < 0 → gw_G l V ad cc own nL ret f lo Qp X h (pc + 3) ls st) : gw_G l V ad cc own nL ret f lo Qp X h pc ls (.int x :: st) := by
  obtain ⟨p, e, s, m, args, below, meth, c, D, cI⟩ := X
  intro ok H locs lsA hP hD hS hl
  exact lv_if_lt ok.1 ok.2.1 hdg ht (fun q => kt q ok H locs lsA hP hD hS hl) (fun q => kf q ok H locs lsA hP hD hS hl)
theorem gw_if_ge {x : Int32} {off : Int} {tgt : Nat} (hdg : decode cc pc = .ok (.ifCond .ge off, 3)) (ht : (pc : Int) + off = (tgt : Int)) (kt : 0 ≤ x → gw_G l V ad cc own nL ret f lo Qp X h tgt ls st) (kf : ¬ 0 ≤ x → gw_G l V ad cc own nL ret f lo Qp X h (pc + 3) ls st) : gw_G l V ad cc own nL ret f lo Qp X h pc ls (.int x :: st) := by
  obtain ⟨p, e, s, m, args, below, meth, c, D, cI⟩ := X
  intro ok H locs lsA hP hD hS hl
  exact lv_if_ge ok.1 ok.2.1 hdg ht (fun q => kt q ok H locs lsA hP hD hS hl) (fun q => kf q ok H locs lsA hP hD hS hl)
theorem gw_if_gt {x : Int32} {off : Int} {tgt : Nat} (hdg : decode cc pc = .ok (.ifCond .gt off, 3)) (ht : (pc : Int) + off = (tgt : Int)) (kt : 0 < x → gw_G l V ad cc own nL ret f lo Qp X h tgt ls st) (kf : ¬ 0 < x → gw_G l V ad cc own nL ret f lo Qp X h (pc + 3) ls st) : gw_G l V ad cc own nL ret f lo Qp X h pc ls (.int x :: st) := by
  obtain ⟨p, e, s, m, args, below, meth, c, D, cI⟩ := X
  intro ok H locs lsA hP hD hS hl
  exact lv_if_gt ok.1 ok.2.1 hdg ht (fun q => kt q ok H locs lsA hP hD hS hl) (fun q => kf q ok H locs lsA hP hD hS hl)
theorem gw_if_le {x : Int32} {off : Int} {tgt : Nat} (hdg : decode cc pc = .ok (.ifCond .le off, 3)) (ht : (pc : Int) + off = (tgt : Int)) (kt : x ≤ 0 → gw_G l V ad cc own nL ret f lo Qp X h tgt ls st) (kf : ¬ x ≤ 0 → gw_G l V ad cc own nL ret f lo Qp X h (pc + 3) ls st) : gw_G l V ad cc own nL ret f lo Qp X h pc ls (.int x :: st) := by
  obtain ⟨p, e, s, m, args, below, meth, c, D, cI⟩ := X
  intro ok H locs lsA hP hD hS hl
  exact lv_if_le ok.1 ok.2.1 hdg ht (fun q => kt q ok H locs lsA hP hD hS hl) (fun q => kf q ok H locs lsA hP hD hS hl)
theorem gw_icmp_eq {x y : Int32} {off : Int} {tgt : Nat} (hdg : decode cc pc = .ok (.if_icmp .eq off, 3)) (ht : (pc : Int) + off = (tgt : Int)) (kt : x = y → gw_G l V ad cc own nL ret f lo Qp X h tgt ls st) (kf : ¬ x = y → gw_G l V ad cc own nL ret f lo Qp X h (pc + 3) ls st) : gw_G l V ad cc own nL ret f lo Qp X h pc ls (.int y :: .int x :: st) := by
  obtain ⟨p, e, s, m, args, below, meth, c, D, cI⟩ := X
  intro ok H locs lsA hP hD hS hl
  exact lv_icmp_eq ok.1 ok.2.1 hdg ht (fun q => kt q ok H locs lsA hP hD hS hl) (fun q => kf q ok H locs lsA hP hD hS hl)
theorem gw_icmp_ne {x y : Int32} {off : Int} {tgt : Nat} (hdg : decode cc pc = .ok (.if_icmp .ne off, 3)) (ht : (pc : Int) + off = (tgt : Int)) (kt : ¬ x = y → gw_G l V ad cc own nL ret f lo Qp X h tgt ls st) (kf : x = y → gw_G l V ad cc own nL ret f lo Qp X h (pc + 3) ls st) : gw_G l V ad cc own nL ret f lo Qp X h pc ls (.int y :: .int x :: st) := by
  obtain ⟨p, e, s, m, args, below, meth, c, D, cI⟩ := X
  intro ok H locs lsA hP hD hS hl
  exact lv_icmp_ne ok.1 ok.2.1 hdg ht (fun q => kt q ok H locs lsA hP hD hS hl) (fun q => kf q ok H locs lsA hP hD hS hl)
theorem gw_icmp_lt {x y : Int32} {off : Int} {tgt : Nat} (hdg : decode cc pc = .ok (.if_icmp .lt off, 3)) (ht : (pc : Int) + off = (tgt : Int)) (kt : x < y → gw_G l V ad cc own nL ret f lo Qp X h tgt ls st) (kf : ¬ x < y → gw_G l V ad cc own nL ret f lo Qp X h (pc + 3) ls st) : gw_G l V ad cc own nL ret f lo Qp X h pc ls (.int y :: .int x :: st) := by
  obtain ⟨p, e, s, m, args, below, meth, c, D, cI⟩ := X
  intro ok H locs lsA hP hD hS hl
  exact lv_icmp_lt ok.1 ok.2.1 hdg ht (fun q => kt q ok H locs lsA hP hD hS hl) (fun q => kf q ok H locs lsA hP hD hS hl)
theorem gw_icmp_ge {x y : Int32} {off : Int} {tgt : Nat} (hdg : decode cc pc = .ok (.if_icmp .ge off, 3)) (ht : (pc : Int) + off = (tgt : Int)) (kt : y ≤ x → gw_G l V ad cc own nL ret f lo Qp X h tgt ls st) (kf : ¬ y ≤ x → gw_G l V ad cc own nL ret f lo Qp X h (pc + 3) ls st) : gw_G l V ad cc own nL ret f lo Qp X h pc ls (.int y :: .int x :: st) := by
  obtain ⟨p, e, s, m, args, below, meth, c, D, cI⟩ := X
  intro ok H locs lsA hP hD hS hl
  exact lv_icmp_ge ok.1 ok.2.1 hdg ht (fun q => kt q ok H locs lsA hP hD hS hl) (fun q => kf q ok H locs lsA hP hD hS hl)
theorem gw_icmp_gt {x y : Int32} {off : Int} {tgt : Nat} (hdg : decode cc pc = .ok (.if_icmp .gt off, 3)) (ht : (pc : Int) + off = (tgt : Int)) (kt : y < x → gw_G l V ad cc own nL ret f lo Qp X h tgt ls st) (kf : ¬ y < x → gw_G l V ad cc own nL ret f lo Qp X h (pc + 3) ls st) : gw_G l V ad cc own nL ret f lo Qp X h pc ls (.int y :: .int x :: st) := by
  obtain ⟨p, e, s, m, args, below, meth, c, D, cI⟩ := X
  intro ok H locs lsA hP hD hS hl
  exact lv_icmp_gt ok.1 ok.2.1 hdg ht (fun q => kt q ok H locs lsA hP hD hS hl) (fun q => kf q ok H locs lsA hP hD hS hl)
theorem gw_icmp_le {x y : Int32} {off : Int} {tgt : Nat} (hdg : decode cc pc = .ok (.if_icmp .le off, 3)) (ht : (pc : Int) + off = (tgt : Int)) (kt : x ≤ y → gw_G l V ad cc own nL ret f lo Qp X h tgt ls st) (kf : ¬ x ≤ y → gw_G l V ad cc own nL ret f lo Qp X h (pc + 3) ls st) : gw_G l V ad cc own nL ret f lo Qp X h pc ls (.int y :: .int x :: st) := by
  obtain ⟨p, e, s, m, args, below, meth, c, D, cI⟩ := X
  intro ok H locs lsA hP hD hS hl
  exact lv_icmp_le ok.1 ok.2.1 hdg ht (fun q => kt q ok H locs lsA hP hD hS hl) (fun q => kf q ok H locs lsA hP hD hS hl)
theorem gw_tin {dflt lo' hi : Int} {offs : Array Int} {len : Nat} {x k : Int32} {off : Int} {tgt : Nat} (hdg : decode cc pc = .ok (.tableswitch dflt lo' hi offs, len)) (hx : x = k) (h1 : ¬ k.toInt < lo') (h2 : ¬ hi < k.toInt) (ho : offs[(k.toInt - lo').toNat]? = some off) (ht : (pc : Int) + off = (tgt : Int)) (kk : gw_G l V ad cc own nL ret f lo Qp X h tgt ls st) : gw_G l V ad cc own nL ret f lo Qp X h pc ls (.int x :: st) := by
  subst hx
  exact gw_keep (fun _ _ _ _ _ _ _ _ _ _ ok _ _ _ _ _ _ w => lv_tableIn ok.1 ok.2.1 hdg h1 h2 ho ht w) kk
theorem gw_tout {dflt lo' hi : Int} {offs : Array Int} {len : Nat} {x : Int32} {tgt : Nat} (hdg : decode cc pc = .ok (.tableswitch dflt lo' hi offs, len)) (h1 : x.toInt < lo' ∨ hi < x.toInt) (ht : (pc : Int) + dflt = (tgt : Int)) (kk : gw_G l V ad cc own nL ret f lo Qp X h tgt ls st) : gw_G l V ad cc own nL ret f lo Qp X h pc ls (.int x :: st) :=
  gw_keep (fun _ _ _ _ _ _ _ _ _ _ ok _ _ _ _ _ _ w => lv_tableOut ok.1 ok.2.1 hdg h1 ht w) kk
theorem gw_lsw {dflt : Int} {ps : Array (Int × Int)} {len : Nat} {x : Int32} {off : Int} {tgt : Nat} (hdg : decode cc pc = .ok (.lookupswitch dflt ps, len)) (hp : (ps.toList.zip (ps.toList.drop 1)).all (fun (a, next) => a.1 < next.1) = true) (ho : Op.lookupswitch.offset ps.toList dflt x.toInt = off) (ht : (pc : Int) + off = (tgt : Int)) (kk : gw_G l V ad cc own nL ret f lo Qp X h tgt ls st) : gw_G l V ad cc own nL ret f lo Qp X h pc ls (.int x :: st) :=
  gw_keep (fun _ _ _ _ _ _ _ _ _ _ ok _ _ _ _ _ _ w => lv_lookup ok.1 ok.2.1 hdg hp ho ht w) kk
theorem gw_istore_n {k : Fin 4} {i : Nat} {x : Int32} {ls' : gw_L} (hdg : decode cc pc = .ok (.istore_n k, 1)) (hi : (k : Nat) = i) (hn : i < nL) (hls : ls.set i (some (.int x)) = ls') (kk : gw_G l V ad cc own nL ret f lo Qp X h (pc + 1) ls' st) : gw_G l V ad cc own nL ret f lo Qp X h pc ls (.int x :: st) := by
  obtain ⟨p, e, s, m, args, below, meth, c, D, cI⟩ := X
  intro ok H locs lsA hP hD hS hl
  exact lv_istore_n ok.1 ok.2.1 hdg hi hl.has hn rfl (fun lsB hb => kk ok H locs lsB hP hD hS (hls ▸ hl.put rfl hb))
theorem gw_istore {i : Nat} {x : Int32} {ls' : gw_L} (hdg : decode cc pc = .ok (.istore i, 2)) (hn : i < nL) (hls : ls.set i (some (.int x)) = ls') (kk : gw_G l V ad cc own nL ret f lo Qp X h (pc + 2) ls' st) : gw_G l V ad cc own nL ret f lo Qp X h pc ls (.int x :: st) := by
  obtain ⟨p, e, s, m, args, below, meth, c, D, cI⟩ := X
  intro ok H locs lsA hP hD hS hl
  exact lv_istore ok.1 ok.2.1 hdg hl.has hn rfl (fun lsB hb => kk ok H locs lsB hP hD hS (hls ▸ hl.put rfl hb))
theorem gw_iinc {i : Nat} {n : Int} {x v : Int32} {ls' : gw_L} (hdg : decode cc pc = .ok (.iinc i n, 3)) (hx : ls[i]? = some (some (.int x))) (hv : x + Int32.ofInt n = v) (hn : i < nL) (hls : ls.set i (some (.int v)) = ls') (kk : gw_G l V ad cc own nL ret f lo Qp X h (pc + 3) ls' st) : gw_G l V ad cc own nL ret f lo Qp X h pc ls st := by
  obtain ⟨p, e, s, m, args, below, meth, c, D, cI⟩ := X
  intro ok H locs lsA hP hD hS hl
  obtain ⟨k, hk⟩ := List.getElem?_of_mem (gw_lvm.mpr hx)
  exact lv_iinc ok.1 ok.2.1 hdg hl.has hk hv hn rfl (fun lsB hb => kk ok H locs lsB hP hD hS (hls ▸ hl.put rfl hb))
theorem gw_forget {ls' : gw_L} (hs : gw_sub ls' ls) (kk : gw_G l V ad cc own nL ret f lo Qp X h pc ls' st) : gw_G l V ad cc own nL ret f lo Qp X h pc ls st := by
  obtain ⟨p, e, s, m, args, below, meth, c, D, cI⟩ := X
  intro ok H locs lsA hP hD hS hl
  exact kk ok H locs lsA hP hD hS ⟨hl.1, hl.2.1, fun i v hi => hl.2.2 i v (hs.at hi)⟩
/-- what the cells are -/
def gw_O (V : gw_W) (ad : Nat → Nat) (c ci : Nat) (fsF : (Nat → Int32) → List Value) : Prop := c < V.1 ∧ ∀ (cI : ClassId) (v : Nat → Int32), V.2 cI ad v c = .inr (ci, fsF v)
def gw_Ar (V : gw_W) (c n : Nat) : Prop := c < V.1 ∧ ∀ (cI : ClassId) (ad : Nat → Nat) (v : Nat → Int32), V.2 cI ad v c = .inl (cI, n, .inl v)
theorem gw_O.at {V : gw_W} {ad : Nat → Nat} {c ci : Nat} {fsF : (Nat → Int32) → List Value} (hO : gw_O V ad c ci fsF) (cI : ClassId) (h : gw_H) : (gw_ws V cI ad h)[c]? = some (ad c, .inr (ci, fsF (h c))) := by rw [gw_get hO.1, hO.2]
theorem gw_Ar.at {V : gw_W} {c n : Nat} (hO : gw_Ar V c n) (cI : ClassId) (ad : Nat → Nat) (h : gw_H) : (gw_ws V cI ad h)[c]? = some (ad c, .inl (cI, n, .inl (h c))) := by rw [gw_get hO.1, hO.2]
theorem gw_getf {c ci k idx N : Nat} {C O nm ds : String} {fin : Bool} {T : u_T} {fsF : (Nat → Int32) → List Value} {v : Value} (hO : gw_O V ad c ci fsF) (hc : vwCl[ci]? = some (C, T, N)) (hin : ∀ w ∈ u_ws C T N, w ∈ gw_W0) (hk : k < N) (hT : T k = (O, nm, ds, fin)) (hlink : Cond.fieldLink own idx O nm ds ∈ gw_W0) (hv : (fsF (h c))[k]? = some v) (hdg : decode cc pc = .ok (.getfield idx, 3)) (kk : gw_G l V ad cc own nL ret f lo Qp X h (pc + 3) ls (v :: st)) : gw_G l V ad cc own nL ret f lo Qp X h pc ls (.ref (ad c) :: st) :=
  gw_keep (fun _ _ _ _ _ _ _ _ _ cI ok _ _ _ _ hP _ w => va_get (C := C) (T := T) (N := N) (ref := O) ok.1 ok.2.1 ok.2.2.2.2.1 hin ok.2.2.2.1 ok.2.2.2.2.2.2.2.1 hP c (hO.at cI h) hc k hk (by rw [hT]; exact ok.2.2.2.2.1 _ hlink) (by rw [hT]; exact fun _ h9 => h9) hv hdg w) kk
theorem gw_getfN {c ci k idx N : Nat} {C O nm ds host : String} {fin : Bool} {T : u_T} {fsF : (Nat → Int32) → List Value} {v : Value} (hO : gw_O V ad c ci fsF) (hc : vwCl[ci]? = some (C, T, N)) (hin : ∀ w ∈ u_ws C T N, w ∈ gw_W0) (hk : k < N) (hT : T k = (O, nm, ds, fin)) (hlink : Cond.fieldLinkNest own idx O nm ds host ∈ gw_nest) (hv : (fsF (h c))[k]? = some v) (hdg : decode cc pc = .ok (.getfield idx, 3)) (kk : gw_G l V ad cc own nL ret f lo Qp X h (pc + 3) ls (v :: st)) : gw_G l V ad cc own nL ret f lo Qp X h pc ls (.ref (ad c) :: st) :=
  gw_keep (fun _ _ _ _ _ _ _ _ _ cI ok _ _ _ _ hP _ w => va_getN (C := C) (T := T) (N := N) (ref := O) (host := host) ok.1 ok.2.1 ok.2.2.2.2.1 hin ok.2.2.2.1 ok.2.2.2.2.2.2.2.1 hP c (hO.at cI h) hc k hk (by rw [hT]; exact va_Nw.use rfl (ok.2.2.2.2.2.2.2.2.1.1 _ hlink)) (by rw [hT]; exact fun _ h9 => h9) hv hdg w) kk
theorem gw_iald {c n : Nat} {i : Int32} (hA : gw_Ar V c n) (hin : vp_in i n) (hdg : decode cc pc = .ok (.iaload, 1)) (kk : gw_G l V ad cc own nL ret f lo Qp X h (pc + 1) ls (.int (h c i.toNatClampNeg) :: st)) : gw_G l V ad cc own nL ret f lo Qp X h pc ls (.int i :: .ref (ad c) :: st) :=
  gw_keep (fun _ _ _ _ _ _ _ _ _ cI ok _ _ _ _ hP _ w => va_iald ok.1 ok.2.1 ok.2.2.2.2.2.2.2.1 hP c 0 (hA.at cI ad h) rfl hin hdg w) kk
theorem gw_alen {c n : Nat} {v : Int32} (hA : gw_Ar V c n) (hv : Int32.ofNat n = v) (hdg : decode cc pc = .ok (.arraylength, 1)) (kk : gw_G l V ad cc own nL ret f lo Qp X h (pc + 1) ls (.int v :: st)) : gw_G l V ad cc own nL ret f lo Qp X h pc ls (.ref (ad c) :: st) :=
  gw_keep (fun _ _ _ _ _ _ _ _ _ cI ok _ _ _ _ hP _ w => va_alen ok.1 ok.2.1 ok.2.2.2.2.2.2.2.1 hP c 0 (hA.at cI ad h) rfl hv hdg w) kk
theorem gw_iast {c n : Nat} {i x : Int32} (hA : gw_Ar V c n) (hin : vp_in i n) (hdg : decode cc pc = .ok (.iastore, 1)) (kk : gw_G l V ad cc own nL ret f lo Qp X (gw_up h c i.toNatClampNeg x) (pc + 1) ls st) : gw_G l V ad cc own nL ret f lo Qp X h pc ls (.int x :: .int i :: .ref (ad c) :: st) := by
  obtain ⟨p, e, s, m, args, below, meth, cx, D, cI⟩ := X
  intro ok H locs lsA hP hD hS hl
  refine va_iast ok.1 ok.2.1 ok.2.2.2.2.2.2.2.1 hP hD hS c 0 (hA.at cI ad h) rfl hin hdg (fun H1 locs1 hP1 hD1 hS1 => ?_)
  have e1 : (gw_ws V cI ad h).set c (ad c, .inl (cI, n, .inl (upd (h c) i.toNatClampNeg x))) = gw_ws V cI ad (gw_up h c i.toNatClampNeg x) := by
    rw [← hA.2 cI ad (upd (h c) i.toNatClampNeg x)]
    exact gw_set _ hA.1
  rw [e1] at hP1 hD1
  exact kk ok H1 locs1 lsA hP1 hD1 hS1 hl
theorem gw_putf {c ci k idx N : Nat} {C O nm ds : String} {T : u_T} {tyF : Nat → FieldType} {fsF : (Nat → Int32) → List Value} {x : Int32} {ty : FieldType} (hO : gw_O V ad c ci fsF) (hc : vwCl[ci]? = some (C, T, N)) (hin : ∀ w ∈ u_ws C T N, w ∈ gw_W0) (hty : ∀ k, k < N → parseFieldDescriptor (T k).2.2.1 = some (tyF k)) (hnm : ∀ a, a < N → ∀ b, b < N → a ≠ b → (T a).2.1 ≠ (T b).2.1) (hk : k < N) (hT : T k = (O, nm, ds, false)) (hlink : Cond.fieldLink own idx O nm ds ∈ gw_W0) (hd : parseFieldDescriptor ds = some ty) (hn : narrow ty (.int x) = .int x) (hfit : fits ty (.int x) = true) (hset : ∀ v : Nat → Int32, k < (fsF v).length ∧ (fsF v).set k (.int x) = fsF (upd v k x)) (hdg : decode cc pc = .ok (.putfield idx, 3)) (kk : gw_G l V ad cc own nL ret f lo Qp X (gw_up h c k x) (pc + 3) ls st) : gw_G l V ad cc own nL ret f lo Qp X h pc ls (.int x :: .ref (ad c) :: st) := by
  obtain ⟨p, e, s, m, args, below, meth, cx, D, cI⟩ := X
  intro ok H locs lsA hP hD hS hl
  refine va_put (C := C) (T := T) (N := N) (ref := O) ok.1 ok.2.1 ok.2.2.2.2.1 hin tyF hty hnm ok.2.2.2.1 ok.2.2.2.2.2.2.2.1 hP hD hS c (hO.at cI h) hc k hk (by rw [hT]; exact ok.2.2.2.2.1 _ hlink) (by rw [hT]; exact fun _ h9 => h9) (by rw [hT]) (by rw [hT]; exact hd) hn hfit (hset _).1 hdg (fun H1 locs1 hP1 hD1 hS1 => ?_)
  have e1 : (gw_ws V cI ad h).set c (ad c, .inr (ci, (fsF (h c)).set k (.int x))) = gw_ws V cI ad (gw_up h c k x) := by
    rw [(hset _).2, ← hO.2 cI (upd (h c) k x)]
    exact gw_set _ hO.1
  rw [e1] at hP1 hD1
  exact kk ok H1 locs1 lsA hP1 hD1 hS1 hl
theorem gw_putfN {c ci k idx N : Nat} {C O nm ds host : String} {T : u_T} {tyF : Nat → FieldType} {fsF : (Nat → Int32) → List Value} {x : Int32} {ty : FieldType} (hO : gw_O V ad c ci fsF) (hc : vwCl[ci]? = some (C, T, N)) (hin : ∀ w ∈ u_ws C T N, w ∈ gw_W0) (hty : ∀ k, k < N → parseFieldDescriptor (T k).2.2.1 = some (tyF k)) (hnm : ∀ a, a < N → ∀ b, b < N → a ≠ b → (T a).2.1 ≠ (T b).2.1) (hk : k < N) (hT : T k = (O, nm, ds, false)) (hlink : Cond.fieldLinkNest own idx O nm ds host ∈ gw_nest) (hd : parseFieldDescriptor ds = some ty) (hn : narrow ty (.int x) = .int x) (hfit : fits ty (.int x) = true) (hset : ∀ v : Nat → Int32, k < (fsF v).length ∧ (fsF v).set k (.int x) = fsF (upd v k x)) (hdg : decode cc pc = .ok (.putfield idx, 3)) (kk : gw_G l V ad cc own nL ret f lo Qp X (gw_up h c k x) (pc + 3) ls st) : gw_G l V ad cc own nL ret f lo Qp X h pc ls (.int x :: .ref (ad c) :: st) := by
  obtain ⟨p, e, s, m, args, below, meth, cx, D, cI⟩ := X
  intro ok H locs lsA hP hD hS hl
  refine va_putN (C := C) (T := T) (N := N) (ref := O) (host := host) ok.1 ok.2.1 ok.2.2.2.2.1 hin tyF hty hnm ok.2.2.2.1 ok.2.2.2.2.2.2.2.1 hP hD hS c (hO.at cI h) hc k hk (by rw [hT]; exact va_Nw.use rfl (ok.2.2.2.2.2.2.2.2.1.1 _ hlink)) (by rw [hT]; exact fun _ h9 => h9) (by rw [hT]) (by rw [hT]; exact hd) hn hfit (hset _).1 hdg (fun H1 locs1 hP1 hD1 hS1 => ?_)
  have e1 : (gw_ws V cI ad h).set c (ad c, .inr (ci, (fsF (h c)).set k (.int x))) = gw_ws V cI ad (gw_up h c k x) := by
    rw [(hset _).2, ← hO.2 cI (upd (h c) k x)]
    exact gw_set _ hO.1
  rw [e1] at hP1 hD1
  exact kk ok H1 locs1 lsA hP1 hD1 hS1 hl
/-- ends -/
theorem gw_ireturn {ty : FieldType} {r : Int32} (hq : Qp r h) (hret : ret = some ty) (hn : narrow ty (.int r) = .int r) (hdg : decode cc pc = .ok (.ireturn, 1)) : gw_G l V ad cc own nL ret f lo Qp X h pc ls [.int r] := by
  obtain ⟨p, e, s, m, args, below, meth, c, D, cI⟩ := X
  intro ok H locs lsA hP hD hS hl
  subst hret
  exact W.zret (ty := ty) ok.1 ok.2.1 ok.2.2.2.2.2.1 hn (fun t ht hW => ⟨⟨r, h, rfl, hq, by show va_P D vwCl _ t.heap; rw [ht]; exact hP⟩, hS.F ht⟩) hS.2.2 hdg ok.2.2.2.2.2.2.1
theorem gw_return (hq : Qp 0 h) (hret : ret = none) (hdg : decode cc pc = .ok (.return_, 1)) : gw_G l V ad cc own nL ret f lo Qp X h pc ls [] := by
  obtain ⟨p, e, s, m, args, below, meth, c, D, cI⟩ := X
  intro ok H locs lsA hP hD hS hl
  subst hret
  exact W.vret ok.1 ok.2.1 ok.2.2.2.2.2.1 (fun t ht hW => ⟨⟨h, rfl, hq, by show va_P D vwCl _ t.heap; rw [ht]; exact hP⟩, hS.F ht⟩) hS.2.2 hdg ok.2.2.2.2.2.2.1
/-- the start of a called contract, from the caller's state -/
theorem gw_start {D : va_G} {cI : ClassId} {s : State} {H : Heap} {locs : List Loc} {As : List Value} (hP : va_P D vwCl (gw_ws V cI ad h) H) (hD : va_D (gw_A V.1 ad s.heap.size) (gw_ws V cI ad h)) (hS : va_S (gw_A V.1 ad s.heap.size) s.heap H locs) (hK : va_K D vwCl [(cI, .int)] s) (hE : gw_E ad (gw_A V.1 ad s.heap.size) s s.heap) (U : State) (hU : U.heap = H) (hW : s.WarmedH U.vm) : va_Pc As (gw_Pre V ad D cI h H.size) As.toArray U := by
  refine ⟨rfl, by rw [hU], by rw [hU]; exact hP, va_K.moved hW.alike hK, hD.weaken (fun _ _ _ _ => trivial), ?_⟩
  have h1 : gw_E ad (gw_A V.1 ad s.heap.size) s H := hE.kept hS.2.1
  have h2 : gw_E ad (gw_A V.1 ad s.heap.size) U H := h1.warm hW
  rw [hU]
  refine h2.narrow (fun q hq => ?_)
  rcases hq with hq | hq
  · exact Or.inl hq
  · exact Or.inr (Nat.le_trans hS.1 hq)
theorem gw_free {N : Nat} {H0 H : Heap} (hs : H0.size ≤ H.size) : ∀ q, gw_A N ad H.size q → gw_A N ad H0.size q := fun q hq => by
  rcases hq with hq | hq
  · exact Or.inl hq
  · exact Or.inr (Nat.le_trans hs hq)
theorem gw_room {m : MethodId} {lsA : Array Slot} {s9 rest : List Value} (hw : (rest.map fun v => v.category).sum ≤ 8) : 2 * (F0 m pc lsA s9).monitorRoom + (rest.map fun v => v.category).sum ≤ 8 := lv_room hw

theorem gw_giU {y : MethodName} {yc : ByteArray} {n : Nat} {rt : Option FieldType} (hc : Cond.code y yc n rt ∈ gw_W0) : GoodIn gw_W0 (gw_U y yc n rt) := by
  intro w hw
  rcases List.mem_cons.mp hw with rfl | h
  · exact gw_goodU _ hc
  · exact gw_goodU _ h
theorem gw_gi4 {y : MethodName} {ws : List Cond} {idx : Nat} {C : String} (hU : GoodIn gw_W0 ws) (h1 : Cond.methodLink own idx y ∈ gw_W0) (h2 : Cond.instanceMethod y ∈ gw_W0) (h3 : Cond.selects C y y ∈ gw_W0) (h4 : Cond.initialized C ∈ gw_W0) : GoodIn gw_W0 (wsV own idx C y ws) := by
  intro w hw
  rcases List.mem_append.mp hw with h | h
  · rcases List.mem_cons.mp h with rfl | h
    · exact gw_goodU _ h1
    rcases List.mem_cons.mp h with rfl | h
    · exact gw_goodU _ h2
    rcases List.mem_cons.mp h with rfl | h
    · exact gw_goodU _ h3
    rcases List.mem_cons.mp h with rfl | h
    · exact gw_goodU _ h4
    cases h
  · exact hU w h
theorem gw_gi3 {y : MethodName} {ws : List Cond} {idx : Nat} (hU : GoodIn gw_W0 ws) (h1 : Cond.methodLink own idx y ∈ gw_W0) (h2 : Cond.static y ∈ gw_W0) (h4 : Cond.initialized y.cls ∈ gw_W0) : GoodIn gw_W0 (va_wsS own idx y ws) := by
  intro w hw
  rcases List.mem_append.mp hw with h | h
  · rcases List.mem_cons.mp h with rfl | h
    · exact gw_goodU _ h1
    rcases List.mem_cons.mp h with rfl | h
    · exact gw_goodU _ h2
    rcases List.mem_cons.mp h with rfl | h
    · exact gw_goodU _ h4
    cases h
  · exact hU w h
theorem gw_callVi {c ci k idx N yn yf ylo : Nat} {y : MethodName} {yc : ByteArray} {yr : Option FieldType} {C : String} {T : u_T} {fsF : (Nat → Int32) → List Value} {As rest : List Value} {Qc : Int32 → gw_H → Prop} {yt : FieldType} (hv : yr = some yt) (hC : gw_C l y yc yn yr yf ylo V ad (.ref (ad c) :: As) h Qc) (hm : gw_MI y yc yn yr C k) (hlk : Cond.methodLink own idx y ∈ gw_W0)  (hO : gw_O V ad c ci fsF) (hc : vwCl[ci]? = some (C, T, N)) (hn : As.length = k) (hst : st = As.reverse ++ .ref (ad c) :: rest) (hR : yf + 1 ≤ f ∧ 8 + (yn + 11) + ylo ≤ lo) (hw8 : (rest.map fun v => v.category).sum ≤ 8) (hdg : decode cc pc = .ok (.invokevirtual idx, 3))
    (kk : ∀ (r : Int32) (h' : gw_H), Qc r h' → gw_G l V ad cc own nL ret f lo Qp X h' (pc + 3) ls (.int r :: rest)) : gw_G l V ad cc own nL ret f lo Qp X h pc ls st := by
  obtain ⟨p, e, s, m, args, below, meth, cx, D, cI⟩ := X
  intro ok H locs lsA hP hD hS hl
  have hGI : GoodIn gw_W0 (wsV own idx C y (gw_U y yc yn yr)) := gw_gi4 (gw_giU hm.1) hlk hm.2.1 hm.2.2.1 hm.2.2.2.1
  subst hv
  exact va_calli (va_runV (As := As) (rest := rest) ⟨ok.1, ok.2.1, ok.2.2.1, ok.2.2.2.1, ok.2.2.2.2.1⟩ (hC D cI H.size) (cwV (C := C) k ok.2.2.2.2.1 hGI rfl rfl rfl hm.2.2.2.2 ⟨hR.1, hR.2⟩) ⟨gw_blind, va_recv ok.2.2.2.2.2.2.2.1 hP hc (hO.at cI h), fun U hU hW => gw_start (As := .ref (ad c) :: As) hP hD hS ok.2.2.2.2.2.2.2.1 ok.2.2.2.2.2.2.2.2.1 U hU hW⟩ rfl hn hl.1 hst (gw_room hw8) hdg ⟨Nat.zero_le _, Nat.zero_le _⟩) hS (fun q _ hq => gw_free hS.1 q hq) (gw_free hS.1) (fun r u t H1 locs1 ht hvm hw hB hz hk hS1 => by
    subst ht
    exact kk r u hw ok t.heap locs1 lsA hB (gw_D u hD) hS1 hl)
theorem gw_callVv {c ci k idx N yn yf ylo : Nat} {y : MethodName} {yc : ByteArray} {yr : Option FieldType} {C : String} {T : u_T} {fsF : (Nat → Int32) → List Value} {As rest : List Value} {Qc : Int32 → gw_H → Prop} (hv : yr = none) (hC : gw_C l y yc yn yr yf ylo V ad (.ref (ad c) :: As) h Qc) (hm : gw_MI y yc yn yr C k) (hlk : Cond.methodLink own idx y ∈ gw_W0)  (hO : gw_O V ad c ci fsF) (hc : vwCl[ci]? = some (C, T, N)) (hn : As.length = k) (hst : st = As.reverse ++ .ref (ad c) :: rest) (hR : yf + 1 ≤ f ∧ 8 + (yn + 11) + ylo ≤ lo) (hw8 : (rest.map fun v => v.category).sum ≤ 8) (hdg : decode cc pc = .ok (.invokevirtual idx, 3))
    (kk : ∀ h' : gw_H, Qc 0 h' → gw_G l V ad cc own nL ret f lo Qp X h' (pc + 3) ls rest) : gw_G l V ad cc own nL ret f lo Qp X h pc ls st := by
  obtain ⟨p, e, s, m, args, below, meth, cx, D, cI⟩ := X
  intro ok H locs lsA hP hD hS hl
  have hGI : GoodIn gw_W0 (wsV own idx C y (gw_U y yc yn yr)) := gw_gi4 (gw_giU hm.1) hlk hm.2.1 hm.2.2.1 hm.2.2.2.1
  subst hv
  exact va_callv (va_runV (As := As) (rest := rest) ⟨ok.1, ok.2.1, ok.2.2.1, ok.2.2.2.1, ok.2.2.2.2.1⟩ (hC D cI H.size) (cwV (C := C) k ok.2.2.2.2.1 hGI rfl rfl rfl hm.2.2.2.2 ⟨hR.1, hR.2⟩) ⟨gw_blind, va_recv ok.2.2.2.2.2.2.2.1 hP hc (hO.at cI h), fun U hU hW => gw_start (As := .ref (ad c) :: As) hP hD hS ok.2.2.2.2.2.2.2.1 ok.2.2.2.2.2.2.2.2.1 U hU hW⟩ rfl hn hl.1 hst (gw_room hw8) hdg ⟨Nat.zero_le _, Nat.zero_le _⟩) hS (fun q _ hq => gw_free hS.1 q hq) (gw_free hS.1) (fun u t H1 locs1 ht hvm hw hB hz hk hS1 => by
    subst ht
    exact kk u hw ok t.heap locs1 lsA hB (gw_D u hD) hS1 hl)
theorem gw_callTi {i k idx yn yf ylo : Nat} {y : MethodName} {yc : ByteArray} {yr : Option FieldType} {C : String} {As rest : List Value} {Qc : Int32 → gw_H → Prop} {yt : FieldType} (hv : yr = some yt) (hC : gw_C l y yc yn yr yf ylo V ad (.ref (ad (1000 + i)) :: As) h Qc) (hm : gw_MI y yc yn yr C k) (hlk : Cond.methodLink own idx y ∈ gw_W0)  (hi : i < 2) (hCs : C = "java/lang/String") (hn : As.length = k) (hst : st = As.reverse ++ .ref (ad (1000 + i)) :: rest) (hR : yf + 1 ≤ f ∧ 8 + (yn + 11) + ylo ≤ lo) (hw8 : (rest.map fun v => v.category).sum ≤ 8) (hdg : decode cc pc = .ok (.invokevirtual idx, 3))
    (kk : ∀ (r : Int32) (h' : gw_H), Qc r h' → gw_G l V ad cc own nL ret f lo Qp X h' (pc + 3) ls (.int r :: rest)) : gw_G l V ad cc own nL ret f lo Qp X h pc ls st := by
  obtain ⟨p, e, s, m, args, below, meth, cx, D, cI⟩ := X
  intro ok H locs lsA hP hD hS hl
  have hGI : GoodIn gw_W0 (wsV own idx C y (gw_U y yc yn yr)) := gw_gi4 (gw_giU hm.1) hlk hm.2.1 hm.2.2.1 hm.2.2.2.1
  subst hv
  exact va_calli (va_runV (As := As) (rest := rest) ⟨ok.1, ok.2.1, ok.2.2.1, ok.2.2.2.1, ok.2.2.2.2.1⟩ (hC D cI H.size) (cwV (C := C) k ok.2.2.2.2.1 hGI rfl rfl rfl hm.2.2.2.2 ⟨hR.1, hR.2⟩) ⟨gw_blind, by rw [hCs]; exact vk_recv (adK := fun i => ad (1000 + i)) (i := i) ok.2.2.2.2.2.2.2.2.1.2.1 hi hS, fun U hU hW => gw_start (As := .ref (ad (1000 + i)) :: As) hP hD hS ok.2.2.2.2.2.2.2.1 ok.2.2.2.2.2.2.2.2.1 U hU hW⟩ rfl hn hl.1 hst (gw_room hw8) hdg ⟨Nat.zero_le _, Nat.zero_le _⟩) hS (fun q _ hq => gw_free hS.1 q hq) (gw_free hS.1) (fun r u t H1 locs1 ht hvm hw hB hz hk hS1 => by
    subst ht
    exact kk r u hw ok t.heap locs1 lsA hB (gw_D u hD) hS1 hl)
theorem gw_callSi {k idx yn yf ylo : Nat} {y : MethodName} {yc : ByteArray} {yr : Option FieldType} {C : String} {As rest : List Value} {Qc : Int32 → gw_H → Prop} {yt : FieldType} (hv : yr = some yt) (hC : gw_C l y yc yn yr yf ylo V ad As h Qc) (hm : gw_MS y yc yn yr C k) (hlk : Cond.methodLink own idx y ∈ gw_W0)   (hn : As.length = k) (hst : st = As.reverse ++ rest) (hR : yf + 1 ≤ f ∧ 8 + (yn + 11) + ylo ≤ lo) (hw8 : (rest.map fun v => v.category).sum ≤ 8) (hdg : decode cc pc = .ok (.invokestatic idx, 3))
    (kk : ∀ (r : Int32) (h' : gw_H), Qc r h' → gw_G l V ad cc own nL ret f lo Qp X h' (pc + 3) ls (.int r :: rest)) : gw_G l V ad cc own nL ret f lo Qp X h pc ls st := by
  obtain ⟨p, e, s, m, args, below, meth, cx, D, cI⟩ := X
  intro ok H locs lsA hP hD hS hl
  have hGI : GoodIn gw_W0 (va_wsS own idx y (gw_U y yc yn yr)) := gw_gi3 (gw_giU hm.1) hlk hm.2.1 (by rw [hm.2.2.2.1]; exact hm.2.2.1)
  subst hv
  exact va_calli (va_runS (As := As) (rest := rest) ⟨ok.1, ok.2.1, ok.2.2.1, ok.2.2.2.1, ok.2.2.2.2.1⟩ (hC D cI H.size) (va_cwS k ok.2.2.2.2.1 hGI rfl rfl rfl hm.2.2.2.2 ⟨hR.1, hR.2⟩) ⟨gw_blind, fun U hU hW => gw_start (As := As) hP hD hS ok.2.2.2.2.2.2.2.1 ok.2.2.2.2.2.2.2.2.1 U hU hW⟩ rfl hn hl.1 hst (gw_room hw8) hdg ⟨Nat.zero_le _, Nat.zero_le _⟩) hS (fun q _ hq => gw_free hS.1 q hq) (gw_free hS.1) (fun r u t H1 locs1 ht hvm hw hB hz hk hS1 => by
    subst ht
    exact kk r u hw ok t.heap locs1 lsA hB (gw_D u hD) hS1 hl)
theorem gw_callSv {k idx yn yf ylo : Nat} {y : MethodName} {yc : ByteArray} {yr : Option FieldType} {C : String} {As rest : List Value} {Qc : Int32 → gw_H → Prop} (hv : yr = none) (hC : gw_C l y yc yn yr yf ylo V ad As h Qc) (hm : gw_MS y yc yn yr C k) (hlk : Cond.methodLink own idx y ∈ gw_W0)   (hn : As.length = k) (hst : st = As.reverse ++ rest) (hR : yf + 1 ≤ f ∧ 8 + (yn + 11) + ylo ≤ lo) (hw8 : (rest.map fun v => v.category).sum ≤ 8) (hdg : decode cc pc = .ok (.invokestatic idx, 3))
    (kk : ∀ h' : gw_H, Qc 0 h' → gw_G l V ad cc own nL ret f lo Qp X h' (pc + 3) ls rest) : gw_G l V ad cc own nL ret f lo Qp X h pc ls st := by
  obtain ⟨p, e, s, m, args, below, meth, cx, D, cI⟩ := X
  intro ok H locs lsA hP hD hS hl
  have hGI : GoodIn gw_W0 (va_wsS own idx y (gw_U y yc yn yr)) := gw_gi3 (gw_giU hm.1) hlk hm.2.1 (by rw [hm.2.2.2.1]; exact hm.2.2.1)
  subst hv
  exact va_callv (va_runS (As := As) (rest := rest) ⟨ok.1, ok.2.1, ok.2.2.1, ok.2.2.2.1, ok.2.2.2.2.1⟩ (hC D cI H.size) (va_cwS k ok.2.2.2.2.1 hGI rfl rfl rfl hm.2.2.2.2 ⟨hR.1, hR.2⟩) ⟨gw_blind, fun U hU hW => gw_start (As := As) hP hD hS ok.2.2.2.2.2.2.2.1 ok.2.2.2.2.2.2.2.2.1 U hU hW⟩ rfl hn hl.1 hst (gw_room hw8) hdg ⟨Nat.zero_le _, Nat.zero_le _⟩) hS (fun q _ hq => gw_free hS.1 q hq) (gw_free hS.1) (fun u t H1 locs1 ht hvm hw hB hz hk hS1 => by
    subst ht
    exact kk u hw ok t.heap locs1 lsA hB (gw_D u hD) hS1 hl)
theorem gw_callNi {k idx yn yf ylo : Nat} {y : MethodName} {yc : ByteArray} {yr : Option FieldType} {C : String} {host : String} {As rest : List Value} {Qc : Int32 → gw_H → Prop} {yt : FieldType} (hv : yr = some yt) (hC : gw_C l y yc yn yr yf ylo V ad As h Qc) (hm : gw_MS y yc yn yr C k) (hlk : Cond.methodLinkNest own idx y host ∈ gw_nest)   (hn : As.length = k) (hst : st = As.reverse ++ rest) (hR : yf + 1 ≤ f ∧ 8 + (yn + 11) + ylo ≤ lo) (hw8 : (rest.map fun v => v.category).sum ≤ 8) (hdg : decode cc pc = .ok (.invokestatic idx, 3))
    (kk : ∀ (r : Int32) (h' : gw_H), Qc r h' → gw_G l V ad cc own nL ret f lo Qp X h' (pc + 3) ls (.int r :: rest)) : gw_G l V ad cc own nL ret f lo Qp X h pc ls st := by
  obtain ⟨p, e, s, m, args, below, meth, cx, D, cI⟩ := X
  intro ok H locs lsA hP hD hS hl
  have hGI : GoodIn gw_W0 (gw_U y yc yn yr) := gw_giU hm.1
  subst hv
  exact va_calli (va_runSN (As := As) (rest := rest) ⟨ok.1, ok.2.1, ok.2.2.1, ok.2.2.2.1, ok.2.2.2.2.1⟩ (hC D cI H.size) (⟨va_cnB (host := host) k ok.2.2.2.2.1 hGI rfl rfl rfl (ok.2.2.2.2.2.2.2.2.1.1 _ hlk) (by rw [hm.2.2.2.1]; exact ok.2.2.2.2.1 _ hm.2.2.1) hm.2.2.2.2 ⟨hR.1, hR.2⟩, ok.2.2.2.2.1 _ hm.2.1, trivial⟩) ⟨gw_blind, fun U hU hW => gw_start (As := As) hP hD hS ok.2.2.2.2.2.2.2.1 ok.2.2.2.2.2.2.2.2.1 U hU hW⟩ rfl hn hl.1 hst (gw_room hw8) hdg ⟨Nat.zero_le _, Nat.zero_le _⟩) hS (fun q _ hq => gw_free hS.1 q hq) (gw_free hS.1) (fun r u t H1 locs1 ht hvm hw hB hz hk hS1 => by
    subst ht
    exact kk r u hw ok t.heap locs1 lsA hB (gw_D u hD) hS1 hl)
theorem gw_callNv {k idx yn yf ylo : Nat} {y : MethodName} {yc : ByteArray} {yr : Option FieldType} {C : String} {host : String} {As rest : List Value} {Qc : Int32 → gw_H → Prop} (hv : yr = none) (hC : gw_C l y yc yn yr yf ylo V ad As h Qc) (hm : gw_MS y yc yn yr C k) (hlk : Cond.methodLinkNest own idx y host ∈ gw_nest)   (hn : As.length = k) (hst : st = As.reverse ++ rest) (hR : yf + 1 ≤ f ∧ 8 + (yn + 11) + ylo ≤ lo) (hw8 : (rest.map fun v => v.category).sum ≤ 8) (hdg : decode cc pc = .ok (.invokestatic idx, 3))
    (kk : ∀ h' : gw_H, Qc 0 h' → gw_G l V ad cc own nL ret f lo Qp X h' (pc + 3) ls rest) : gw_G l V ad cc own nL ret f lo Qp X h pc ls st := by
  obtain ⟨p, e, s, m, args, below, meth, cx, D, cI⟩ := X
  intro ok H locs lsA hP hD hS hl
  have hGI : GoodIn gw_W0 (gw_U y yc yn yr) := gw_giU hm.1
  subst hv
  exact va_callv (va_runSN (As := As) (rest := rest) ⟨ok.1, ok.2.1, ok.2.2.1, ok.2.2.2.1, ok.2.2.2.2.1⟩ (hC D cI H.size) (⟨va_cnB (host := host) k ok.2.2.2.2.1 hGI rfl rfl rfl (ok.2.2.2.2.2.2.2.2.1.1 _ hlk) (by rw [hm.2.2.2.1]; exact ok.2.2.2.2.1 _ hm.2.2.1) hm.2.2.2.2 ⟨hR.1, hR.2⟩, ok.2.2.2.2.1 _ hm.2.1, trivial⟩) ⟨gw_blind, fun U hU hW => gw_start (As := As) hP hD hS ok.2.2.2.2.2.2.2.1 ok.2.2.2.2.2.2.2.2.1 U hU hW⟩ rfl hn hl.1 hst (gw_room hw8) hdg ⟨Nat.zero_le _, Nat.zero_le _⟩) hS (fun q _ hq => gw_free hS.1 q hq) (gw_free hS.1) (fun u t H1 locs1 ht hvm hw hB hz hk hS1 => by
    subst ht
    exact kk u hw ok t.heap locs1 lsA hB (gw_D u hD) hS1 hl)
theorem gw_mmin {idx : Nat} {x y : Int32} (hlk : Cond.methodLink own idx Lib.Math.min.name ∈ gw_W0) (hR : 1 ≤ f ∧ 21 ≤ lo) (hw8 : (st.map fun v => v.category).sum ≤ 8) (hdg : decode cc pc = .ok (.invokestatic idx, 3)) (kk : gw_G l V ad cc own nL ret f lo Qp X h (pc + 3) ls (.int (if y < x then y else x) :: st)) : gw_G l V ad cc own nL ret f lo Qp X h pc ls (.int y :: .int x :: st) :=
  gw_keep (fun _ _ _ _ _ _ _ _ _ _ ok _ _ _ _ _ hl w => va_mmin ok.1 ok.2.1 (ok.2.2.1.trans hl.1.symm) ok.2.2.2.1 (ok.2.2.2.2.1 _ hlk) (ok.2.2.2.2.1 _ wd_min.1) (ok.2.2.2.2.1 _ wd_min.2.1) (ok.2.2.2.2.1 _ wd_min.2.2) hR.1 (by have := hR.2; show _ ≤ lo; omega) (Nat.le_refl _) (Nat.le_refl _) hdg w) kk
theorem gw_mmax {idx : Nat} {x y : Int32} (hlk : Cond.methodLink own idx Lib.Math.max.name ∈ gw_W0) (hR : 1 ≤ f ∧ 21 ≤ lo) (hw8 : (st.map fun v => v.category).sum ≤ 8) (hdg : decode cc pc = .ok (.invokestatic idx, 3)) (kk : gw_G l V ad cc own nL ret f lo Qp X h (pc + 3) ls (.int (if x < y then y else x) :: st)) : gw_G l V ad cc own nL ret f lo Qp X h pc ls (.int y :: .int x :: st) :=
  gw_keep (fun _ _ _ _ _ _ _ _ _ _ ok _ _ _ _ _ hl w => va_mmax ok.1 ok.2.1 (ok.2.2.1.trans hl.1.symm) ok.2.2.2.1 (ok.2.2.2.2.1 _ hlk) (ok.2.2.2.2.1 _ wd_max.1) (ok.2.2.2.2.1 _ wd_max.2.1) (ok.2.2.2.2.1 _ wd_max.2.2) hR.1 (by have := hR.2; show _ ≤ lo; omega) (Nat.le_refl _) (Nat.le_refl _) hdg w) kk
theorem gw_copy {idx c0 c1 n0 n1 : Nat} {n : Int32} (hlk : Cond.methodLink own idx arraycopyName ∈ gw_W0) (hA0 : gw_Ar V c0 n0) (hA1 : gw_Ar V c1 n1) (hc : ¬ n < 0 ∧ n.toNatClampNeg ≤ n0 ∧ n.toNatClampNeg ≤ n1) (hR : 1 ≤ f) (hlo : (st.map fun v => v.category).sum + (nativeFrameWords "java/lang/System" "arraycopy" 5 + 11) ≤ lo) (hdg : decode cc pc = .ok (.invokestatic idx, 3)) (kk : gw_G l V ad cc own nL ret f lo Qp X (gw_st h c1 (va_cpy (h c0) (h c1) 0 0 n.toNatClampNeg)) (pc + 3) ls st) : gw_G l V ad cc own nL ret f lo Qp X h pc ls (.int n :: .int 0 :: .ref (ad c1) :: .int 0 :: .ref (ad c0) :: st) := by
  obtain ⟨p, e, s, m, args, below, meth, cx, D, cI⟩ := X
  intro ok H locs lsA hP hD hS hl
  have z0 : ((0 : Int32).toNatClampNeg) = 0 := by decide
  refine va_copyi (ty := .int) ok.1 ok.2.1 (ok.2.2.1.trans hl.1.symm) ok.2.2.2.1 (ok.2.2.2.2.1 _ hlk) (ok.2.2.2.2.1 _ wd_acopy.1) (ok.2.2.2.2.1 _ wd_acopy.2.1) (ok.2.2.2.2.1 _ wd_acopy.2.2) ok.2.2.2.2.2.2.2.1 hP hD hS c0 c1 0 0 (hA0.at cI ad h) (hA1.at cI ad h) rfl rfl rfl (by decide) (by decide) hc.1 (by rw [z0, Nat.zero_add]; exact hc.2.1) (by rw [z0, Nat.zero_add]; exact hc.2.2) (fun _ _ => rfl) hR hlo hdg (fun H1 locs1 hP1 hD1 hS1 => ?_)
  rw [z0] at hP1 hD1
  have e1 : (gw_ws V cI ad h).set c1 (ad c1, .inl (cI, n1, .inl (va_cpy (h c0) (h c1) 0 0 n.toNatClampNeg))) = gw_ws V cI ad (gw_st h c1 (va_cpy (h c0) (h c1) 0 0 n.toNatClampNeg)) := by
    rw [← hA1.2 cI ad (va_cpy (h c0) (h c1) 0 0 n.toNatClampNeg)]
    exact gw_set _ hA1.1
  rw [e1] at hP1 hD1
  exact kk ok H1 locs1 lsA hP1 hD1 hS1 hl
/-- strings -/
theorem gw_keepS {pc' : Nat} {st' : List Value} (hr : ∀ (p : Program) (e : Env) (s : State) (m : MethodId) (args : Array Value) (below : List Frame) (meth : Method) (c : Code) (D : va_G) (cI : ClassId), gw_OK l V ad cc own nL ret (p, e, s, m, args, below, meth, c, D, cI) → ∀ (H : Heap) (locs : List Loc) (lsA : Array Slot) (Q : State → Prop), va_S (gw_A V.1 ad s.heap.size) s.heap H locs → gw_lok lsA nL ls → W p l e (gw_R f lo) s m args below meth c H locs 0 0 Q (F0 m pc' lsA st') → W p l e (gw_R f lo) s m args below meth c H locs 0 0 Q (F0 m pc lsA st))
    (k : gw_G l V ad cc own nL ret f lo Qp X h pc' ls st') : gw_G l V ad cc own nL ret f lo Qp X h pc ls st := by
  obtain ⟨p, e, s, m, args, below, meth, c, D, cI⟩ := X
  intro ok H locs lsA hP hD hS hl
  exact hr p e s m args below meth c D cI ok H locs lsA _ hS hl (k ok H locs lsA hP hD hS hl)
theorem gw_ldcS0 (hown : own = "SongThatStays$Text") (hdg : decode cc pc = .ok (.ldc 34, 2)) (kk : gw_G l V ad cc own nL ret f lo Qp X h (pc + 2) ls (.ref (ad (1000 + 0)) :: st)) : gw_G l V ad cc own nL ret f lo Qp X h pc ls st :=
  gw_keep (fun _ _ _ _ _ _ _ _ _ _ ok _ _ _ _ _ _ w => va_ldcS ok.1 ok.2.1 ok.2.2.2.1 (hown ▸ ok.2.2.2.2.2.2.2.2.1.2.2.1) hdg w) kk
theorem gw_ldcS1 (hown : own = "SongThatStays$Text") (hdg : decode cc pc = .ok (.ldc 36, 2)) (kk : gw_G l V ad cc own nL ret f lo Qp X h (pc + 2) ls (.ref (ad (1000 + 1)) :: st)) : gw_G l V ad cc own nL ret f lo Qp X h pc ls st :=
  gw_keep (fun _ _ _ _ _ _ _ _ _ _ ok _ _ _ _ _ _ w => va_ldcS ok.1 ok.2.1 ok.2.2.2.1 (hown ▸ ok.2.2.2.2.2.2.2.2.1.2.2.2.1) hdg w) kk
theorem gw_sval {i idx : Nat} (hi : i < 2) (hlk : Cond.fieldLink own idx "java/lang/String" "value" "[B" ∈ gw_W0) (hdg : decode cc pc = .ok (.getfield idx, 3)) (kk : gw_G l V ad cc own nL ret f lo Qp X h (pc + 3) ls (.ref (ad (1010 + i)) :: st)) : gw_G l V ad cc own nL ret f lo Qp X h pc ls (.ref (ad (1000 + i)) :: st) :=
  gw_keepS (fun _ _ _ _ _ _ _ _ _ _ ok _ _ _ _ hS _ w => vk_getf (ref := "java/lang/String") ok.1 ok.2.1 (ok.2.2.2.2.2.2.2.2.1.2.1.1 i hi).2.2.1 hS ok.2.2.2.1 (ok.2.2.2.2.1 _ hlk) (fun _ h9 => h9) hdg w) kk
theorem gw_scod {i idx : Nat} (hi : i < 2) (hlk : Cond.fieldLink own idx "java/lang/String" "coder" "B" ∈ gw_W0) (hdg : decode cc pc = .ok (.getfield idx, 3)) (kk : gw_G l V ad cc own nL ret f lo Qp X h (pc + 3) ls (.int 0 :: st)) : gw_G l V ad cc own nL ret f lo Qp X h pc ls (.ref (ad (1000 + i)) :: st) :=
  gw_keepS (fun _ _ _ _ _ _ _ _ _ _ ok _ _ _ _ hS _ w => vk_getf (ref := "java/lang/String") ok.1 ok.2.1 (ok.2.2.2.2.2.2.2.2.1.2.1.1 i hi).2.1 hS ok.2.2.2.1 (ok.2.2.2.2.1 _ hlk) (fun _ h9 => h9) hdg w) kk
theorem gw_slen {i : Nat} (hi : i < 2) (hdg : decode cc pc = .ok (.arraylength, 1)) (kk : gw_G l V ad cc own nL ret f lo Qp X h (pc + 1) ls (.int (Int32.ofNat (gw_len2.getD i 0)) :: st)) : gw_G l V ad cc own nL ret f lo Qp X h pc ls (.ref (ad (1010 + i)) :: st) :=
  gw_keepS (fun _ _ _ _ _ _ _ _ _ _ ok _ _ _ _ hS _ w => va_tlen ok.1 ok.2.1 (ok.2.2.2.2.2.2.2.2.1.2.1.1 i hi).2.2.2 hS rfl hdg w) kk
theorem gw_sbald {i : Nat} {j : Int32} (hi : i < 2) (hin : vp_in j (gw_len2.getD i 0)) (hdg : decode cc pc = .ok (.baload, 1)) (kk : gw_G l V ad cc own nL ret f lo Qp X h (pc + 1) ls (.int ((gw_byt2.getD i []).getD j.toNatClampNeg 0) :: st)) : gw_G l V ad cc own nL ret f lo Qp X h pc ls (.int j :: .ref (ad (1010 + i)) :: st) :=
  gw_keepS (fun _ _ _ _ _ _ _ _ _ _ ok _ _ _ _ hS _ w => va_tb ok.1 ok.2.1 (ok.2.2.2.2.2.2.2.2.1.2.1.1 i hi).2.2.2 hS hin rfl hdg w) kk
theorem gw_gets {idx : Nat} (hlk : Cond.fieldLink own idx "java/lang/String" "COMPACT_STRINGS" "Z" ∈ gw_W0) (hdg : decode cc pc = .ok (.getstatic idx, 3)) (kk : gw_G l V ad cc own nL ret f lo Qp X h (pc + 3) ls (.int 1 :: st)) : gw_G l V ad cc own nL ret f lo Qp X h pc ls st :=
  gw_keepS (fun _ _ _ _ _ _ _ _ _ _ ok _ _ _ _ hS _ w => va_gets (ref := "java/lang/String") ok.1 ok.2.1 ok.2.2.2.2.2.2.2.2.1.2.2.2.2 hS ok.2.2.2.1 (ok.2.2.2.2.1 _ hlk) (fun _ h9 => h9) hdg w) kk
theorem gw_i2b {x v : Int32} (hdg : decode cc pc = .ok (.i2b, 1)) (hv : x.toInt8.toInt32 = v) (kk : gw_G l V ad cc own nL ret f lo Qp X h (pc + 1) ls (.int v :: st)) : gw_G l V ad cc own nL ret f lo Qp X h pc ls (.int x :: st) :=
  gw_keep (fun _ _ _ _ _ _ _ _ _ _ ok _ _ _ _ _ _ w => lv_i2b ok.1 ok.2.1 hdg hv w) kk

end GWR
end
