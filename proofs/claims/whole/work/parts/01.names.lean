-- ===== PART A: goes FIRST, ahead of the names: the tables' words, and 'selects' of the private methods out of them =====
/-- a private method of a class that the tables say can be made, by its rows of tables_1 -/
def lw_okq (q : MethodName × Nat) : Prop := (q.1.cls ≠ "java/lang/invoke/MethodHandle" ∧ q.1.cls ≠ "java/lang/invoke/VarHandle") ∧ Cond.instantiable q.1.cls q.2 ∈ tables_1 ∧ Cond.privateMethod q.1 ∈ tables_1 ∧ Cond.instanceMethod q.1 ∈ tables_1
theorem lw_p0 : lw_okq (⟨"ReadFromRight$Goods", "understand", "()V"⟩, 6) := ⟨⟨by decide +kernel, by decide +kernel⟩, List.mem_of_getElem? (i := 36) (by decide +kernel), List.mem_of_getElem? (i := 253) (by decide +kernel), List.mem_of_getElem? (i := 254) (by decide +kernel)⟩
theorem lw_p1 : lw_okq (⟨"ReadFromRight$Goods", "understandGoods", "()I"⟩, 6) := ⟨⟨by decide +kernel, by decide +kernel⟩, List.mem_of_getElem? (i := 36) (by decide +kernel), List.mem_of_getElem? (i := 257) (by decide +kernel), List.mem_of_getElem? (i := 258) (by decide +kernel)⟩
theorem lw_p2 : lw_okq (⟨"ReadFromRight$Goods", "endOfFigures", "(I)I"⟩, 6) := ⟨⟨by decide +kernel, by decide +kernel⟩, List.mem_of_getElem? (i := 36) (by decide +kernel), List.mem_of_getElem? (i := 261) (by decide +kernel), List.mem_of_getElem? (i := 262) (by decide +kernel)⟩
theorem lw_p3 : lw_okq (⟨"ReadFromRight$Goods", "byteAt", "(I)I"⟩, 6) := ⟨⟨by decide +kernel, by decide +kernel⟩, List.mem_of_getElem? (i := 36) (by decide +kernel), List.mem_of_getElem? (i := 265) (by decide +kernel), List.mem_of_getElem? (i := 266) (by decide +kernel)⟩
theorem lw_p4 : lw_okq (⟨"ReadFromRight$Goods", "numberBetween", "(II)I"⟩, 6) := ⟨⟨by decide +kernel, by decide +kernel⟩, List.mem_of_getElem? (i := 36) (by decide +kernel), List.mem_of_getElem? (i := 269) (by decide +kernel), List.mem_of_getElem? (i := 270) (by decide +kernel)⟩
theorem lw_p5 : lw_okq (⟨"ReadFromRight", "isGood", "(I)Z"⟩, 11) := ⟨⟨by decide +kernel, by decide +kernel⟩, List.mem_of_getElem? (i := 17) (by decide +kernel), List.mem_of_getElem? (i := 297) (by decide +kernel), List.mem_of_getElem? (i := 298) (by decide +kernel)⟩
theorem lw_p6 : lw_okq (⟨"ReadFromRight", "finding", "(I)I"⟩, 11) := ⟨⟨by decide +kernel, by decide +kernel⟩, List.mem_of_getElem? (i := 17) (by decide +kernel), List.mem_of_getElem? (i := 359) (by decide +kernel), List.mem_of_getElem? (i := 360) (by decide +kernel)⟩
theorem lw_p7 : lw_okq (⟨"ReadFromRight$Till", "reckonBills", "()V"⟩, 12) := ⟨⟨by decide +kernel, by decide +kernel⟩, List.mem_of_getElem? (i := 61) (by decide +kernel), List.mem_of_getElem? (i := 397) (by decide +kernel), List.mem_of_getElem? (i := 398) (by decide +kernel)⟩
theorem lw_p8 : lw_okq (⟨"ReadFromRight$Till", "reckonBought", "()V"⟩, 12) := ⟨⟨by decide +kernel, by decide +kernel⟩, List.mem_of_getElem? (i := 61) (by decide +kernel), List.mem_of_getElem? (i := 416) (by decide +kernel), List.mem_of_getElem? (i := 417) (by decide +kernel)⟩
theorem lw_p9 : lw_okq (⟨"ReadFromRight$Till", "takeBest", "(I)V"⟩, 12) := ⟨⟨by decide +kernel, by decide +kernel⟩, List.mem_of_getElem? (i := 61) (by decide +kernel), List.mem_of_getElem? (i := 427) (by decide +kernel), List.mem_of_getElem? (i := 428) (by decide +kernel)⟩
theorem lw_p10 : lw_okq (⟨"ReadFromRight$Till", "partOnceMore", "(I)V"⟩, 12) := ⟨⟨by decide +kernel, by decide +kernel⟩, List.mem_of_getElem? (i := 61) (by decide +kernel), List.mem_of_getElem? (i := 440) (by decide +kernel), List.mem_of_getElem? (i := 441) (by decide +kernel)⟩
theorem lw_p11 : lw_okq (⟨"ReadFromRight$Till", "partSet", "(II)V"⟩, 12) := ⟨⟨by decide +kernel, by decide +kernel⟩, List.mem_of_getElem? (i := 61) (by decide +kernel), List.mem_of_getElem? (i := 444) (by decide +kernel), List.mem_of_getElem? (i := 445) (by decide +kernel)⟩
theorem lw_p12 : lw_okq (⟨"ReadFromRight$Till", "isProof", "(IIII)Z"⟩, 12) := ⟨⟨by decide +kernel, by decide +kernel⟩, List.mem_of_getElem? (i := 61) (by decide +kernel), List.mem_of_getElem? (i := 489) (by decide +kernel), List.mem_of_getElem? (i := 490) (by decide +kernel)⟩
theorem lw_p13 : lw_okq (⟨"ReadFromRight$FigureCount", "countAll", "(I)V"⟩, 4) := ⟨⟨by decide +kernel, by decide +kernel⟩, List.mem_of_getElem? (i := 136) (by decide +kernel), List.mem_of_getElem? (i := 525) (by decide +kernel), List.mem_of_getElem? (i := 526) (by decide +kernel)⟩
theorem lw_p14 : lw_okq (⟨"ReadFromRight$FigureCount", "take", "(II)V"⟩, 4) := ⟨⟨by decide +kernel, by decide +kernel⟩, List.mem_of_getElem? (i := 136) (by decide +kernel), List.mem_of_getElem? (i := 530) (by decide +kernel), List.mem_of_getElem? (i := 531) (by decide +kernel)⟩
theorem lw_p15 : lw_okq (⟨"ReadFromRight$Months", "bestOfTwo", "(IZ)I"⟩, 3) := ⟨⟨by decide +kernel, by decide +kernel⟩, List.mem_of_getElem? (i := 155) (by decide +kernel), List.mem_of_getElem? (i := 547) (by decide +kernel), List.mem_of_getElem? (i := 548) (by decide +kernel)⟩
def lw_privs_1 : List (MethodName × Nat) := [(⟨"ReadFromRight$Goods", "understand", "()V"⟩, 6), (⟨"ReadFromRight$Goods", "understandGoods", "()I"⟩, 6), (⟨"ReadFromRight$Goods", "endOfFigures", "(I)I"⟩, 6), (⟨"ReadFromRight$Goods", "byteAt", "(I)I"⟩, 6), (⟨"ReadFromRight$Goods", "numberBetween", "(II)I"⟩, 6), (⟨"ReadFromRight", "isGood", "(I)Z"⟩, 11), (⟨"ReadFromRight", "finding", "(I)I"⟩, 11), (⟨"ReadFromRight$Till", "reckonBills", "()V"⟩, 12), (⟨"ReadFromRight$Till", "reckonBought", "()V"⟩, 12), (⟨"ReadFromRight$Till", "takeBest", "(I)V"⟩, 12), (⟨"ReadFromRight$Till", "partOnceMore", "(I)V"⟩, 12), (⟨"ReadFromRight$Till", "partSet", "(II)V"⟩, 12), (⟨"ReadFromRight$Till", "isProof", "(IIII)Z"⟩, 12), (⟨"ReadFromRight$FigureCount", "countAll", "(I)V"⟩, 4), (⟨"ReadFromRight$FigureCount", "take", "(II)V"⟩, 4), (⟨"ReadFromRight$Months", "bestOfTwo", "(IZ)I"⟩, 3)]
theorem lw_r1 : ∀ q ∈ lw_privs_1, lw_okq q := List.forall_mem_cons.mpr ⟨lw_p0, List.forall_mem_cons.mpr ⟨lw_p1, List.forall_mem_cons.mpr ⟨lw_p2, List.forall_mem_cons.mpr ⟨lw_p3, List.forall_mem_cons.mpr ⟨lw_p4, List.forall_mem_cons.mpr ⟨lw_p5, List.forall_mem_cons.mpr ⟨lw_p6, List.forall_mem_cons.mpr ⟨lw_p7, List.forall_mem_cons.mpr ⟨lw_p8, List.forall_mem_cons.mpr ⟨lw_p9, List.forall_mem_cons.mpr ⟨lw_p10, List.forall_mem_cons.mpr ⟨lw_p11, List.forall_mem_cons.mpr ⟨lw_p12, List.forall_mem_cons.mpr ⟨lw_p13, List.forall_mem_cons.mpr ⟨lw_p14, List.forall_mem_cons.mpr ⟨lw_p15, fun _ h => absurd h List.not_mem_nil⟩⟩⟩⟩⟩⟩⟩⟩⟩⟩⟩⟩⟩⟩⟩⟩
theorem lw_p16 : lw_okq (⟨"ReadFromRight$Partners", "paidBySet", "(I)I"⟩, 3) := ⟨⟨by decide +kernel, by decide +kernel⟩, List.mem_of_getElem? (i := 104) (by decide +kernel), List.mem_of_getElem? (i := 563) (by decide +kernel), List.mem_of_getElem? (i := 564) (by decide +kernel)⟩
theorem lw_p17 : lw_okq (⟨"ReadFromRight", "goodsInto", "(J)J"⟩, 11) := ⟨⟨by decide +kernel, by decide +kernel⟩, List.mem_of_getElem? (i := 17) (by decide +kernel), List.mem_of_getElem? (i := 681) (by decide +kernel), List.mem_of_getElem? (i := 682) (by decide +kernel)⟩
theorem lw_p18 : lw_okq (⟨"ReadFromRight", "figuresInto", "(J)J"⟩, 11) := ⟨⟨by decide +kernel, by decide +kernel⟩, List.mem_of_getElem? (i := 17) (by decide +kernel), List.mem_of_getElem? (i := 692) (by decide +kernel), List.mem_of_getElem? (i := 693) (by decide +kernel)⟩
theorem lw_p19 : lw_okq (⟨"ReadFromRightModel", "met", "(I)I"⟩, 20) := ⟨⟨by decide +kernel, by decide +kernel⟩, List.mem_of_getElem? (i := 700) (by decide +kernel), List.mem_of_getElem? (i := 779) (by decide +kernel), List.mem_of_getElem? (i := 780) (by decide +kernel)⟩
theorem lw_p20 : lw_okq (⟨"ReadFromRightModel", "lacks", "(III)I"⟩, 20) := ⟨⟨by decide +kernel, by decide +kernel⟩, List.mem_of_getElem? (i := 700) (by decide +kernel), List.mem_of_getElem? (i := 791) (by decide +kernel), List.mem_of_getElem? (i := 792) (by decide +kernel)⟩
theorem lw_p21 : lw_okq (⟨"ReadFromRightModel", "reads", "()I"⟩, 20) := ⟨⟨by decide +kernel, by decide +kernel⟩, List.mem_of_getElem? (i := 700) (by decide +kernel), List.mem_of_getElem? (i := 820) (by decide +kernel), List.mem_of_getElem? (i := 821) (by decide +kernel)⟩
theorem lw_p22 : lw_okq (⟨"ReadFromRightModel", "readsPart", "()Z"⟩, 20) := ⟨⟨by decide +kernel, by decide +kernel⟩, List.mem_of_getElem? (i := 700) (by decide +kernel), List.mem_of_getElem? (i := 824) (by decide +kernel), List.mem_of_getElem? (i := 825) (by decide +kernel)⟩
theorem lw_p23 : lw_okq (⟨"ReadFromRightModel", "here", "()I"⟩, 20) := ⟨⟨by decide +kernel, by decide +kernel⟩, List.mem_of_getElem? (i := 700) (by decide +kernel), List.mem_of_getElem? (i := 828) (by decide +kernel), List.mem_of_getElem? (i := 829) (by decide +kernel)⟩
theorem lw_p24 : lw_okq (⟨"ReadFromRightModel", "none", "()I"⟩, 20) := ⟨⟨by decide +kernel, by decide +kernel⟩, List.mem_of_getElem? (i := 700) (by decide +kernel), List.mem_of_getElem? (i := 834) (by decide +kernel), List.mem_of_getElem? (i := 835) (by decide +kernel)⟩
theorem lw_p25 : lw_okq (⟨"ReadFromRightModel", "isGood", "(I)Z"⟩, 20) := ⟨⟨by decide +kernel, by decide +kernel⟩, List.mem_of_getElem? (i := 700) (by decide +kernel), List.mem_of_getElem? (i := 842) (by decide +kernel), List.mem_of_getElem? (i := 843) (by decide +kernel)⟩
theorem lw_p26 : lw_okq (⟨"ReadFromRightModel", "goodOf", "(II)I"⟩, 20) := ⟨⟨by decide +kernel, by decide +kernel⟩, List.mem_of_getElem? (i := 700) (by decide +kernel), List.mem_of_getElem? (i := 846) (by decide +kernel), List.mem_of_getElem? (i := 847) (by decide +kernel)⟩
theorem lw_p27 : lw_okq (⟨"ReadFromRightModel", "paidFor", "(I)I"⟩, 20) := ⟨⟨by decide +kernel, by decide +kernel⟩, List.mem_of_getElem? (i := 700) (by decide +kernel), List.mem_of_getElem? (i := 875) (by decide +kernel), List.mem_of_getElem? (i := 876) (by decide +kernel)⟩
theorem lw_p28 : lw_okq (⟨"ReadFromRightModel", "whole", "()I"⟩, 20) := ⟨⟨by decide +kernel, by decide +kernel⟩, List.mem_of_getElem? (i := 700) (by decide +kernel), List.mem_of_getElem? (i := 883) (by decide +kernel), List.mem_of_getElem? (i := 884) (by decide +kernel)⟩
theorem lw_p29 : lw_okq (⟨"ReadFromRightModel", "sumOf", "(I)I"⟩, 20) := ⟨⟨by decide +kernel, by decide +kernel⟩, List.mem_of_getElem? (i := 700) (by decide +kernel), List.mem_of_getElem? (i := 890) (by decide +kernel), List.mem_of_getElem? (i := 891) (by decide +kernel)⟩
theorem lw_p30 : lw_okq (⟨"ReadFromRightModel", "boughtOf", "(I)I"⟩, 20) := ⟨⟨by decide +kernel, by decide +kernel⟩, List.mem_of_getElem? (i := 700) (by decide +kernel), List.mem_of_getElem? (i := 901) (by decide +kernel), List.mem_of_getElem? (i := 902) (by decide +kernel)⟩
theorem lw_p31 : lw_okq (⟨"ReadFromRightModel", "findBills", "()V"⟩, 20) := ⟨⟨by decide +kernel, by decide +kernel⟩, List.mem_of_getElem? (i := 700) (by decide +kernel), List.mem_of_getElem? (i := 905) (by decide +kernel), List.mem_of_getElem? (i := 906) (by decide +kernel)⟩
def lw_privs_2 : List (MethodName × Nat) := [(⟨"ReadFromRight$Partners", "paidBySet", "(I)I"⟩, 3), (⟨"ReadFromRight", "goodsInto", "(J)J"⟩, 11), (⟨"ReadFromRight", "figuresInto", "(J)J"⟩, 11), (⟨"ReadFromRightModel", "met", "(I)I"⟩, 20), (⟨"ReadFromRightModel", "lacks", "(III)I"⟩, 20), (⟨"ReadFromRightModel", "reads", "()I"⟩, 20), (⟨"ReadFromRightModel", "readsPart", "()Z"⟩, 20), (⟨"ReadFromRightModel", "here", "()I"⟩, 20), (⟨"ReadFromRightModel", "none", "()I"⟩, 20), (⟨"ReadFromRightModel", "isGood", "(I)Z"⟩, 20), (⟨"ReadFromRightModel", "goodOf", "(II)I"⟩, 20), (⟨"ReadFromRightModel", "paidFor", "(I)I"⟩, 20), (⟨"ReadFromRightModel", "whole", "()I"⟩, 20), (⟨"ReadFromRightModel", "sumOf", "(I)I"⟩, 20), (⟨"ReadFromRightModel", "boughtOf", "(I)I"⟩, 20), (⟨"ReadFromRightModel", "findBills", "()V"⟩, 20)]
theorem lw_r2 : ∀ q ∈ lw_privs_2, lw_okq q := List.forall_mem_cons.mpr ⟨lw_p16, List.forall_mem_cons.mpr ⟨lw_p17, List.forall_mem_cons.mpr ⟨lw_p18, List.forall_mem_cons.mpr ⟨lw_p19, List.forall_mem_cons.mpr ⟨lw_p20, List.forall_mem_cons.mpr ⟨lw_p21, List.forall_mem_cons.mpr ⟨lw_p22, List.forall_mem_cons.mpr ⟨lw_p23, List.forall_mem_cons.mpr ⟨lw_p24, List.forall_mem_cons.mpr ⟨lw_p25, List.forall_mem_cons.mpr ⟨lw_p26, List.forall_mem_cons.mpr ⟨lw_p27, List.forall_mem_cons.mpr ⟨lw_p28, List.forall_mem_cons.mpr ⟨lw_p29, List.forall_mem_cons.mpr ⟨lw_p30, List.forall_mem_cons.mpr ⟨lw_p31, fun _ h => absurd h List.not_mem_nil⟩⟩⟩⟩⟩⟩⟩⟩⟩⟩⟩⟩⟩⟩⟩⟩
theorem lw_p32 : lw_okq (⟨"ReadFromRightModel", "addedTo", "(I)I"⟩, 20) := ⟨⟨by decide +kernel, by decide +kernel⟩, List.mem_of_getElem? (i := 700) (by decide +kernel), List.mem_of_getElem? (i := 914) (by decide +kernel), List.mem_of_getElem? (i := 915) (by decide +kernel)⟩
theorem lw_p33 : lw_okq (⟨"ReadFromRightModel", "proofOf", "(II)I"⟩, 20) := ⟨⟨by decide +kernel, by decide +kernel⟩, List.mem_of_getElem? (i := 700) (by decide +kernel), List.mem_of_getElem? (i := 923) (by decide +kernel), List.mem_of_getElem? (i := 924) (by decide +kernel)⟩
theorem lw_p34 : lw_okq (⟨"ReadFromRightModel", "gainBy", "(I)I"⟩, 20) := ⟨⟨by decide +kernel, by decide +kernel⟩, List.mem_of_getElem? (i := 700) (by decide +kernel), List.mem_of_getElem? (i := 930) (by decide +kernel), List.mem_of_getElem? (i := 931) (by decide +kernel)⟩
theorem lw_p35 : lw_okq (⟨"ReadFromRightModel", "raisedOf", "(II)I"⟩, 20) := ⟨⟨by decide +kernel, by decide +kernel⟩, List.mem_of_getElem? (i := 700) (by decide +kernel), List.mem_of_getElem? (i := 941) (by decide +kernel), List.mem_of_getElem? (i := 942) (by decide +kernel)⟩
theorem lw_p36 : lw_okq (⟨"ReadFromRightModel", "isProof", "(I)Z"⟩, 20) := ⟨⟨by decide +kernel, by decide +kernel⟩, List.mem_of_getElem? (i := 700) (by decide +kernel), List.mem_of_getElem? (i := 945) (by decide +kernel), List.mem_of_getElem? (i := 946) (by decide +kernel)⟩
theorem lw_p37 : lw_okq (⟨"ReadFromRightModel", "roundsOf", "(III)I"⟩, 20) := ⟨⟨by decide +kernel, by decide +kernel⟩, List.mem_of_getElem? (i := 700) (by decide +kernel), List.mem_of_getElem? (i := 953) (by decide +kernel), List.mem_of_getElem? (i := 954) (by decide +kernel)⟩
theorem lw_p38 : lw_okq (⟨"ReadFromRightModel", "figuresOf", "(II)I"⟩, 20) := ⟨⟨by decide +kernel, by decide +kernel⟩, List.mem_of_getElem? (i := 700) (by decide +kernel), List.mem_of_getElem? (i := 961) (by decide +kernel), List.mem_of_getElem? (i := 962) (by decide +kernel)⟩
theorem lw_p39 : lw_okq (⟨"ReadFromRightModel", "rentOf", "(III)I"⟩, 20) := ⟨⟨by decide +kernel, by decide +kernel⟩, List.mem_of_getElem? (i := 700) (by decide +kernel), List.mem_of_getElem? (i := 971) (by decide +kernel), List.mem_of_getElem? (i := 972) (by decide +kernel)⟩
theorem lw_p40 : lw_okq (⟨"ReadFromRightModel", "shareOf", "(II)J"⟩, 20) := ⟨⟨by decide +kernel, by decide +kernel⟩, List.mem_of_getElem? (i := 700) (by decide +kernel), List.mem_of_getElem? (i := 979) (by decide +kernel), List.mem_of_getElem? (i := 980) (by decide +kernel)⟩
theorem lw_p41 : lw_okq (⟨"ReadFromRightModel", "worth", "(I)I"⟩, 20) := ⟨⟨by decide +kernel, by decide +kernel⟩, List.mem_of_getElem? (i := 700) (by decide +kernel), List.mem_of_getElem? (i := 983) (by decide +kernel), List.mem_of_getElem? (i := 984) (by decide +kernel)⟩
theorem lw_p42 : lw_okq (⟨"ReadFromRightModel", "fits", "(II)Z"⟩, 20) := ⟨⟨by decide +kernel, by decide +kernel⟩, List.mem_of_getElem? (i := 700) (by decide +kernel), List.mem_of_getElem? (i := 999) (by decide +kernel), List.mem_of_getElem? (i := 1000) (by decide +kernel)⟩
theorem lw_p43 : lw_okq (⟨"ReadFromRightModel", "gameOf", "(IIII)I"⟩, 20) := ⟨⟨by decide +kernel, by decide +kernel⟩, List.mem_of_getElem? (i := 700) (by decide +kernel), List.mem_of_getElem? (i := 1009) (by decide +kernel), List.mem_of_getElem? (i := 1010) (by decide +kernel)⟩
theorem lw_p44 : lw_okq (⟨"ReadFromRightModel", "value", "(III)I"⟩, 20) := ⟨⟨by decide +kernel, by decide +kernel⟩, List.mem_of_getElem? (i := 700) (by decide +kernel), List.mem_of_getElem? (i := 1013) (by decide +kernel), List.mem_of_getElem? (i := 1014) (by decide +kernel)⟩
def lw_privs_3 : List (MethodName × Nat) := [(⟨"ReadFromRightModel", "addedTo", "(I)I"⟩, 20), (⟨"ReadFromRightModel", "proofOf", "(II)I"⟩, 20), (⟨"ReadFromRightModel", "gainBy", "(I)I"⟩, 20), (⟨"ReadFromRightModel", "raisedOf", "(II)I"⟩, 20), (⟨"ReadFromRightModel", "isProof", "(I)Z"⟩, 20), (⟨"ReadFromRightModel", "roundsOf", "(III)I"⟩, 20), (⟨"ReadFromRightModel", "figuresOf", "(II)I"⟩, 20), (⟨"ReadFromRightModel", "rentOf", "(III)I"⟩, 20), (⟨"ReadFromRightModel", "shareOf", "(II)J"⟩, 20), (⟨"ReadFromRightModel", "worth", "(I)I"⟩, 20), (⟨"ReadFromRightModel", "fits", "(II)Z"⟩, 20), (⟨"ReadFromRightModel", "gameOf", "(IIII)I"⟩, 20), (⟨"ReadFromRightModel", "value", "(III)I"⟩, 20)]
theorem lw_r3 : ∀ q ∈ lw_privs_3, lw_okq q := List.forall_mem_cons.mpr ⟨lw_p32, List.forall_mem_cons.mpr ⟨lw_p33, List.forall_mem_cons.mpr ⟨lw_p34, List.forall_mem_cons.mpr ⟨lw_p35, List.forall_mem_cons.mpr ⟨lw_p36, List.forall_mem_cons.mpr ⟨lw_p37, List.forall_mem_cons.mpr ⟨lw_p38, List.forall_mem_cons.mpr ⟨lw_p39, List.forall_mem_cons.mpr ⟨lw_p40, List.forall_mem_cons.mpr ⟨lw_p41, List.forall_mem_cons.mpr ⟨lw_p42, List.forall_mem_cons.mpr ⟨lw_p43, List.forall_mem_cons.mpr ⟨lw_p44, fun _ h => absurd h List.not_mem_nil⟩⟩⟩⟩⟩⟩⟩⟩⟩⟩⟩⟩⟩
def lw_privs : List (MethodName × Nat) := lw_privs_1 ++ (lw_privs_2 ++ (lw_privs_3))
def lw_tbl : List Cond := k2_sels lw_privs ++ tables_1
theorem lw_privs_ok : ∀ q ∈ lw_privs, lw_okq q := by
  show ∀ q ∈ lw_privs_1 ++ (lw_privs_2 ++ (lw_privs_3)), lw_okq q
  exact List.forall_mem_append.mpr ⟨lw_r1, List.forall_mem_append.mpr ⟨lw_r2, lw_r3⟩⟩
-- names, as printed for this claim
def RX0 : String := "ReadFromRight$FigureCount"
def TX0 : u_T := fun k => match k with
  | 0 => ("ReadFromRight$FigureCount", "law", "LReadFromRight$Law;", true)
  | 1 => ("ReadFromRight$FigureCount", "answers", "[I", true)
  | 2 => ("ReadFromRight$FigureCount", "counted", "I", false)
  | _ => ("ReadFromRight$FigureCount", "farthestBy", "I", false)
def tyX0 : Nat → FieldType := fun k => match k with
  | 0 => .object "ReadFromRight$Law"
  | 1 => .array .int
  | 2 => .int
  | _ => .int
abbrev wsX00 : List Cond := u_ws RX0 TX0 4
theorem nmX0 : ∀ a, a < 4 → ∀ b, b < 4 → a ≠ b → (TX0 a).2.1 ≠ (TX0 b).2.1 := by decide +kernel
theorem tyX0_ok : ∀ k, k < 4 → parseFieldDescriptor (TX0 k).2.2.1 = some (tyX0 k) := by decide +kernel
abbrev cX0_init : ByteArray := prog_2_method_1_code
def yX0_init : MethodName := ⟨RX0, "<init>", "(LReadFromRight$Law;)V"⟩
abbrev cX0_forget : ByteArray := prog_2_method_2_code
def yX0_forget : MethodName := ⟨RX0, "forget", "()V"⟩
abbrev cX0_answer : ByteArray := prog_2_method_3_code
def yX0_answer : MethodName := ⟨RX0, "answer", "(II)I"⟩
abbrev cX0_countAll : ByteArray := prog_2_method_4_code
def yX0_countAll : MethodName := ⟨RX0, "countAll", "(I)V"⟩
abbrev cX0_take : ByteArray := prog_2_method_5_code
def yX0_take : MethodName := ⟨RX0, "take", "(II)V"⟩
def RX1 : String := "ReadFromRight$Goods"
def TX1 : u_T := fun k => match k with
  | 0 => ("ReadFromRight$Goods", "bytes", "[I", true)
  | 1 => ("ReadFromRight$Goods", "prices", "[I", true)
  | 2 => ("ReadFromRight$Goods", "used", "I", false)
  | 3 => ("ReadFromRight$Goods", "many", "I", false)
  | 4 => ("ReadFromRight$Goods", "wanted", "I", false)
  | _ => ("ReadFromRight$Goods", "badPlace", "I", false)
def tyX1 : Nat → FieldType := fun k => match k with
  | 0 => .array .int
  | 1 => .array .int
  | 2 => .int
  | 3 => .int
  | 4 => .int
  | _ => .int
abbrev wsX10 : List Cond := u_ws RX1 TX1 6
theorem nmX1 : ∀ a, a < 6 → ∀ b, b < 6 → a ≠ b → (TX1 a).2.1 ≠ (TX1 b).2.1 := by decide +kernel
theorem tyX1_ok : ∀ k, k < 6 → parseFieldDescriptor (TX1 k).2.2.1 = some (tyX1 k) := by decide +kernel
abbrev cX1_init : ByteArray := prog_3_method_1_code
def yX1_init : MethodName := ⟨RX1, "<init>", "()V"⟩
abbrev cX1_length : ByteArray := prog_3_method_2_code
def yX1_length : MethodName := ⟨RX1, "length", "()I"⟩
abbrev cX1_size : ByteArray := prog_3_method_3_code
def yX1_size : MethodName := ⟨RX1, "size", "()I"⟩
abbrev cX1_allBits : ByteArray := prog_3_method_4_code
def yX1_allBits : MethodName := ⟨RX1, "allBits", "()I"⟩
abbrev cX1_wantedBits : ByteArray := prog_3_method_5_code
def yX1_wantedBits : MethodName := ⟨RX1, "wantedBits", "()I"⟩
abbrev cX1_faultPlace : ByteArray := prog_3_method_6_code
def yX1_faultPlace : MethodName := ⟨RX1, "faultPlace", "()I"⟩
abbrev cX1_priceOf : ByteArray := prog_3_method_7_code
def yX1_priceOf : MethodName := ⟨RX1, "priceOf", "(I)I"⟩
abbrev cX1_isWanted : ByteArray := prog_3_method_8_code
def yX1_isWanted : MethodName := ⟨RX1, "isWanted", "(I)Z"⟩
abbrev cX1_append : ByteArray := prog_3_method_9_code
def yX1_append : MethodName := ⟨RX1, "append", "(I)V"⟩
abbrev cX1_clear : ByteArray := prog_3_method_10_code
def yX1_clear : MethodName := ⟨RX1, "clear", "()V"⟩
abbrev cX1_understand : ByteArray := prog_3_method_11_code
def yX1_understand : MethodName := ⟨RX1, "understand", "()V"⟩
abbrev cX1_understandGoods : ByteArray := prog_3_method_12_code
def yX1_understandGoods : MethodName := ⟨RX1, "understandGoods", "()I"⟩
abbrev cX1_endOfFigures : ByteArray := prog_3_method_13_code
def yX1_endOfFigures : MethodName := ⟨RX1, "endOfFigures", "(I)I"⟩
abbrev cX1_numberBetween : ByteArray := prog_3_method_14_code
def yX1_numberBetween : MethodName := ⟨RX1, "numberBetween", "(II)I"⟩
abbrev cX1_byteAt : ByteArray := prog_3_method_15_code
def yX1_byteAt : MethodName := ⟨RX1, "byteAt", "(I)I"⟩
def RX2 : String := "ReadFromRight$Law"
def TX2 : u_T := fun k => match k with
  | _ => ("ReadFromRight$Law", "values", "[I", true)
def tyX2 : Nat → FieldType := fun k => match k with
  | _ => .array .int
abbrev wsX20 : List Cond := u_ws RX2 TX2 1
theorem nmX2 : ∀ a, a < 1 → ∀ b, b < 1 → a ≠ b → (TX2 a).2.1 ≠ (TX2 b).2.1 := by decide +kernel
theorem tyX2_ok : ∀ k, k < 1 → parseFieldDescriptor (TX2 k).2.2.1 = some (tyX2 k) := by decide +kernel
abbrev cX2_init : ByteArray := prog_4_method_1_code
def yX2_init : MethodName := ⟨RX2, "<init>", "()V"⟩
abbrev cX2_valueOf : ByteArray := prog_4_method_2_code
def yX2_valueOf : MethodName := ⟨RX2, "valueOf", "(I)I"⟩
abbrev cX2_change : ByteArray := prog_4_method_3_code
def yX2_change : MethodName := ⟨RX2, "change", "(II)V"⟩
abbrev cX2_paidFor : ByteArray := prog_4_method_4_code
def yX2_paidFor : MethodName := ⟨RX2, "paidFor", "(I)I"⟩
abbrev cX2_splitUp : ByteArray := prog_4_method_5_code
def yX2_splitUp : MethodName := ⟨RX2, "splitUp", "(I[I)I"⟩
def RX3 : String := "ReadFromRight$Months"
def TX3 : u_T := fun k => match k with
  | 0 => ("ReadFromRight$Months", "law", "LReadFromRight$Law;", true)
  | 1 => ("ReadFromRight$Months", "payments", "[I", true)
  | _ => ("ReadFromRight$Months", "best", "[I", true)
def tyX3 : Nat → FieldType := fun k => match k with
  | 0 => .object "ReadFromRight$Law"
  | 1 => .array .int
  | _ => .array .int
abbrev wsX30 : List Cond := u_ws RX3 TX3 3
theorem nmX3 : ∀ a, a < 3 → ∀ b, b < 3 → a ≠ b → (TX3 a).2.1 ≠ (TX3 b).2.1 := by decide +kernel
theorem tyX3_ok : ∀ k, k < 3 → parseFieldDescriptor (TX3 k).2.2.1 = some (tyX3 k) := by decide +kernel
abbrev cX3_init : ByteArray := prog_5_method_1_code
def yX3_init : MethodName := ⟨RX3, "<init>", "(LReadFromRight$Law;)V"⟩
abbrev cX3_part : ByteArray := prog_5_method_2_code
def yX3_part : MethodName := ⟨RX3, "part", "(IIZ)I"⟩
abbrev cX3_bestOfTwo : ByteArray := prog_5_method_3_code
def yX3_bestOfTwo : MethodName := ⟨RX3, "bestOfTwo", "(IZ)I"⟩
def RX4 : String := "ReadFromRight$Partners"
def TX4 : u_T := fun k => match k with
  | 0 => ("ReadFromRight$Partners", "law", "LReadFromRight$Law;", true)
  | 1 => ("ReadFromRight$Partners", "goods", "LReadFromRight$Goods;", true)
  | _ => ("ReadFromRight$Partners", "owners", "[I", true)
def tyX4 : Nat → FieldType := fun k => match k with
  | 0 => .object "ReadFromRight$Law"
  | 1 => .object "ReadFromRight$Goods"
  | _ => .array .int
abbrev wsX40 : List Cond := u_ws RX4 TX4 3
theorem nmX4 : ∀ a, a < 3 → ∀ b, b < 3 → a ≠ b → (TX4 a).2.1 ≠ (TX4 b).2.1 := by decide +kernel
theorem tyX4_ok : ∀ k, k < 3 → parseFieldDescriptor (TX4 k).2.2.1 = some (tyX4 k) := by decide +kernel
abbrev cX4_init : ByteArray := prog_6_method_1_code
def yX4_init : MethodName := ⟨RX4, "<init>", "(LReadFromRight$Law;LReadFromRight$Goods;)V"⟩
abbrev cX4_ownerOf : ByteArray := prog_6_method_2_code
def yX4_ownerOf : MethodName := ⟨RX4, "ownerOf", "(I)I"⟩
abbrev cX4_give : ByteArray := prog_6_method_3_code
def yX4_give : MethodName := ⟨RX4, "give", "(II)V"⟩
abbrev cX4_broughtInAllOrders : ByteArray := prog_6_method_4_code
def yX4_broughtInAllOrders : MethodName := ⟨RX4, "broughtInAllOrders", "(I)J"⟩
abbrev cX4_commonWithOrders : ByteArray := prog_6_method_5_code
def yX4_commonWithOrders : MethodName := ⟨RX4, "commonWithOrders", "(J)I"⟩
abbrev cX4_paidBySet : ByteArray := prog_6_method_6_code
def yX4_paidBySet : MethodName := ⟨RX4, "paidBySet", "(I)I"⟩
def RX5 : String := "ReadFromRight$Purse"
def TX5 : u_T := fun k => match k with
  | 0 => ("ReadFromRight$Purse", "law", "LReadFromRight$Law;", true)
  | 1 => ("ReadFromRight$Purse", "held", "[I", true)
  | _ => ("ReadFromRight$Purse", "made", "I", false)
def tyX5 : Nat → FieldType := fun k => match k with
  | 0 => .object "ReadFromRight$Law"
  | 1 => .array .int
  | _ => .int
abbrev wsX50 : List Cond := u_ws RX5 TX5 3
theorem nmX5 : ∀ a, a < 3 → ∀ b, b < 3 → a ≠ b → (TX5 a).2.1 ≠ (TX5 b).2.1 := by decide +kernel
theorem tyX5_ok : ∀ k, k < 3 → parseFieldDescriptor (TX5 k).2.2.1 = some (tyX5 k) := by decide +kernel
abbrev cX5_init : ByteArray := prog_7_method_1_code
def yX5_init : MethodName := ⟨RX5, "<init>", "(LReadFromRight$Law;)V"⟩
abbrev cX5_payOn : ByteArray := prog_7_method_2_code
def yX5_payOn : MethodName := ⟨RX5, "payOn", "(II)V"⟩
abbrev cX5_roundsPaid : ByteArray := prog_7_method_3_code
def yX5_roundsPaid : MethodName := ⟨RX5, "roundsPaid", "()I"⟩
abbrev cX5_contents : ByteArray := prog_7_method_4_code
def yX5_contents : MethodName := ⟨RX5, "contents", "()I"⟩
abbrev cX5_firstReturn : ByteArray := prog_7_method_5_code
def yX5_firstReturn : MethodName := ⟨RX5, "firstReturn", "()I"⟩
def RX6 : String := "ReadFromRight$Sheet"
def TX6 : u_T := fun k => match k with
  | 0 => ("ReadFromRight$Sheet", "items", "[I", true)
  | 1 => ("ReadFromRight$Sheet", "form", "I", false)
  | _ => ("ReadFromRight$Sheet", "length", "I", false)
def tyX6 : Nat → FieldType := fun k => match k with
  | 0 => .array .int
  | 1 => .int
  | _ => .int
abbrev wsX60 : List Cond := u_ws RX6 TX6 3
theorem nmX6 : ∀ a, a < 3 → ∀ b, b < 3 → a ≠ b → (TX6 a).2.1 ≠ (TX6 b).2.1 := by decide +kernel
theorem tyX6_ok : ∀ k, k < 3 → parseFieldDescriptor (TX6 k).2.2.1 = some (tyX6 k) := by decide +kernel
abbrev cX6_init : ByteArray := prog_8_method_1_code
def yX6_init : MethodName := ⟨RX6, "<init>", "()V"⟩
abbrev cX6_isLost : ByteArray := prog_8_method_2_code
def yX6_isLost : MethodName := ⟨RX6, "isLost", "()Z"⟩
abbrev cX6_isLike : ByteArray := prog_8_method_3_code
def yX6_isLike : MethodName := ⟨RX6, "isLike", "(LReadFromRight$Sheet;)Z"⟩
abbrev cX6_size : ByteArray := prog_8_method_4_code
def yX6_size : MethodName := ⟨RX6, "size", "()I"⟩
abbrev cX6_itemAt : ByteArray := prog_8_method_5_code
def yX6_itemAt : MethodName := ⟨RX6, "itemAt", "(I)I"⟩
abbrev cX6_renew : ByteArray := prog_8_method_6_code
def yX6_renew : MethodName := ⟨RX6, "renew", "(II)V"⟩
abbrev cX6_giveUp : ByteArray := prog_8_method_7_code
def yX6_giveUp : MethodName := ⟨RX6, "giveUp", "()V"⟩
abbrev cX6_put : ByteArray := prog_8_method_8_code
def yX6_put : MethodName := ⟨RX6, "put", "(II)V"⟩
abbrev cX6_findingAt : ByteArray := prog_8_method_9_code
def yX6_findingAt : MethodName := ⟨RX6, "findingAt", "(II)I"⟩
abbrev cX6_hasRun : ByteArray := prog_8_method_10_code
def yX6_hasRun : MethodName := ⟨RX6, "hasRun", "(II)Z"⟩
abbrev cX6_takeRun : ByteArray := prog_8_method_11_code
def yX6_takeRun : MethodName := ⟨RX6, "takeRun", "(LReadFromRight$Sheet;III)V"⟩
abbrev cX6_fits : ByteArray := prog_8_method_12_code
def yX6_fits : MethodName := ⟨RX6, "fits", "([II)Z"⟩
def RX7 : String := "ReadFromRight$Till"
def TX7 : u_T := fun k => match k with
  | 0 => ("ReadFromRight$Till", "law", "LReadFromRight$Law;", true)
  | 1 => ("ReadFromRight$Till", "goods", "LReadFromRight$Goods;", true)
  | 2 => ("ReadFromRight$Till", "sums", "[I", true)
  | 3 => ("ReadFromRight$Till", "payments", "[I", true)
  | 4 => ("ReadFromRight$Till", "leastParted", "[I", true)
  | 5 => ("ReadFromRight$Till", "mostParted", "[I", true)
  | 6 => ("ReadFromRight$Till", "knowsBills", "Z", false)
  | 7 => ("ReadFromRight$Till", "knowsBought", "Z", false)
  | 8 => ("ReadFromRight$Till", "least", "I", false)
  | 9 => ("ReadFromRight$Till", "fewest", "I", false)
  | 10 => ("ReadFromRight$Till", "bitsOfLeast", "I", false)
  | _ => ("ReadFromRight$Till", "most", "I", false)
def tyX7 : Nat → FieldType := fun k => match k with
  | 0 => .object "ReadFromRight$Law"
  | 1 => .object "ReadFromRight$Goods"
  | 2 => .array .int
  | 3 => .array .int
  | 4 => .array .int
  | 5 => .array .int
  | 6 => .boolean
  | 7 => .boolean
  | 8 => .int
  | 9 => .int
  | 10 => .int
  | _ => .int
abbrev wsX70 : List Cond := u_ws RX7 TX7 12
theorem nmX7 : ∀ a, a < 12 → ∀ b, b < 12 → a ≠ b → (TX7 a).2.1 ≠ (TX7 b).2.1 := by decide +kernel
theorem tyX7_ok : ∀ k, k < 12 → parseFieldDescriptor (TX7 k).2.2.1 = some (tyX7 k) := by decide +kernel
abbrev cX7_init : ByteArray := prog_9_method_1_code
def yX7_init : MethodName := ⟨RX7, "<init>", "(LReadFromRight$Law;LReadFromRight$Goods;)V"⟩
abbrev cX7_forget : ByteArray := prog_9_method_2_code
def yX7_forget : MethodName := ⟨RX7, "forget", "()V"⟩
abbrev cX7_sumOf : ByteArray := prog_9_method_3_code
def yX7_sumOf : MethodName := ⟨RX7, "sumOf", "(I)I"⟩
abbrev cX7_paidOf : ByteArray := prog_9_method_4_code
def yX7_paidOf : MethodName := ⟨RX7, "paidOf", "(I)I"⟩
abbrev cX7_gainOf : ByteArray := prog_9_method_5_code
def yX7_gainOf : MethodName := ⟨RX7, "gainOf", "(I)I"⟩
abbrev cX7_leastPaid : ByteArray := prog_9_method_6_code
def yX7_leastPaid : MethodName := ⟨RX7, "leastPaid", "()I"⟩
abbrev cX7_leastBills : ByteArray := prog_9_method_7_code
def yX7_leastBills : MethodName := ⟨RX7, "leastBills", "()I"⟩
abbrev cX7_leastBits : ByteArray := prog_9_method_8_code
def yX7_leastBits : MethodName := ⟨RX7, "leastBits", "()I"⟩
abbrev cX7_mostPaid : ByteArray := prog_9_method_9_code
def yX7_mostPaid : MethodName := ⟨RX7, "mostPaid", "()I"⟩
abbrev cX7_greatestGain : ByteArray := prog_9_method_10_code
def yX7_greatestGain : MethodName := ⟨RX7, "greatestGain", "(I)I"⟩
abbrev cX7_leastRaise : ByteArray := prog_9_method_11_code
def yX7_leastRaise : MethodName := ⟨RX7, "leastRaise", "(II)I"⟩
abbrev cX7_isProof : ByteArray := prog_9_method_12_code
def yX7_isProof : MethodName := ⟨RX7, "isProof", "(IIII)Z"⟩
abbrev cX7_reckonBills : ByteArray := prog_9_method_13_code
def yX7_reckonBills : MethodName := ⟨RX7, "reckonBills", "()V"⟩
abbrev cX7_reckonBought : ByteArray := prog_9_method_14_code
def yX7_reckonBought : MethodName := ⟨RX7, "reckonBought", "()V"⟩
abbrev cX7_takeBest : ByteArray := prog_9_method_15_code
def yX7_takeBest : MethodName := ⟨RX7, "takeBest", "(I)V"⟩
abbrev cX7_partOnceMore : ByteArray := prog_9_method_16_code
def yX7_partOnceMore : MethodName := ⟨RX7, "partOnceMore", "(I)V"⟩
abbrev cX7_partSet : ByteArray := prog_9_method_17_code
def yX7_partSet : MethodName := ⟨RX7, "partSet", "(II)V"⟩
def RX8 : String := "ReadFromRight$Turns"
def TX8 : u_T := fun k => match k with
  | 0 => ("ReadFromRight$Turns", "law", "LReadFromRight$Law;", true)
  | 1 => ("ReadFromRight$Turns", "ofFirst", "[I", true)
  | _ => ("ReadFromRight$Turns", "ofOther", "[I", true)
def tyX8 : Nat → FieldType := fun k => match k with
  | 0 => .object "ReadFromRight$Law"
  | 1 => .array .int
  | _ => .array .int
abbrev wsX80 : List Cond := u_ws RX8 TX8 3
theorem nmX8 : ∀ a, a < 3 → ∀ b, b < 3 → a ≠ b → (TX8 a).2.1 ≠ (TX8 b).2.1 := by decide +kernel
theorem tyX8_ok : ∀ k, k < 3 → parseFieldDescriptor (TX8 k).2.2.1 = some (tyX8 k) := by decide +kernel
abbrev cX8_init : ByteArray := prog_10_method_1_code
def yX8_init : MethodName := ⟨RX8, "<init>", "(LReadFromRight$Law;)V"⟩
abbrev cX8_playDownTo : ByteArray := prog_10_method_2_code
def yX8_playDownTo : MethodName := ⟨RX8, "playDownTo", "(III)V"⟩
abbrev cX8_outcomeFrom : ByteArray := prog_10_method_3_code
def yX8_outcomeFrom : MethodName := ⟨RX8, "outcomeFrom", "(I)I"⟩
abbrev cX8_firstAmount : ByteArray := prog_10_method_4_code
def yX8_firstAmount : MethodName := ⟨RX8, "firstAmount", "(II)I"⟩
abbrev cX8_bestAmount : ByteArray := prog_10_method_5_code
def yX8_bestAmount : MethodName := ⟨RX8, "bestAmount", "([IIIZ)I"⟩
def RX9 : String := "ReadFromRight"
def TX9 : u_T := fun k => match k with
  | 0 => ("ReadFromRight", "law", "LReadFromRight$Law;", true)
  | 1 => ("ReadFromRight", "goods", "LReadFromRight$Goods;", true)
  | 2 => ("ReadFromRight", "till", "LReadFromRight$Till;", true)
  | 3 => ("ReadFromRight", "partners", "LReadFromRight$Partners;", true)
  | 4 => ("ReadFromRight", "purses", "LReadFromRight$Purse;", true)
  | 5 => ("ReadFromRight", "figureCount", "LReadFromRight$FigureCount;", true)
  | 6 => ("ReadFromRight", "months", "LReadFromRight$Months;", true)
  | 7 => ("ReadFromRight", "turns", "LReadFromRight$Turns;", true)
  | 8 => ("ReadFromRight", "sheets", "[LReadFromRight$Sheet;", true)
  | 9 => ("ReadFromRight", "row", "[I", true)
  | _ => ("ReadFromRight", "latestFinding", "I", false)
def tyX9 : Nat → FieldType := fun k => match k with
  | 0 => .object "ReadFromRight$Law"
  | 1 => .object "ReadFromRight$Goods"
  | 2 => .object "ReadFromRight$Till"
  | 3 => .object "ReadFromRight$Partners"
  | 4 => .object "ReadFromRight$Purse"
  | 5 => .object "ReadFromRight$FigureCount"
  | 6 => .object "ReadFromRight$Months"
  | 7 => .object "ReadFromRight$Turns"
  | 8 => .array (.object "ReadFromRight$Sheet")
  | 9 => .array .int
  | _ => .int
abbrev wsX90 : List Cond := u_ws RX9 TX9 11
theorem nmX9 : ∀ a, a < 11 → ∀ b, b < 11 → a ≠ b → (TX9 a).2.1 ≠ (TX9 b).2.1 := by decide +kernel
theorem tyX9_ok : ∀ k, k < 11 → parseFieldDescriptor (TX9 k).2.2.1 = some (tyX9 k) := by decide +kernel
abbrev cX9_init : ByteArray := prog_1_method_1_code
def yX9_init : MethodName := ⟨RX9, "<init>", "()V"⟩
abbrev cX9_type : ByteArray := prog_1_method_2_code
def yX9_type : MethodName := ⟨RX9, "type", "(I)I"⟩
abbrev cX9_wipe : ByteArray := prog_1_method_3_code
def yX9_wipe : MethodName := ⟨RX9, "wipe", "()I"⟩
abbrev cX9_fault : ByteArray := prog_1_method_4_code
def yX9_fault : MethodName := ⟨RX9, "fault", "()I"⟩
abbrev cX9_good : ByteArray := prog_1_method_5_code
def yX9_good : MethodName := ⟨RX9, "good", "(II)I"⟩
abbrev cX9_set : ByteArray := prog_1_method_6_code
def yX9_set : MethodName := ⟨RX9, "set", "(II)I"⟩
abbrev cX9_partner : ByteArray := prog_1_method_7_code
def yX9_partner : MethodName := ⟨RX9, "partner", "(II)I"⟩
abbrev cX9_read : ByteArray := prog_1_method_8_code
def yX9_read : MethodName := ⟨RX9, "read", "(I)I"⟩
abbrev cX9_paid : ByteArray := prog_1_method_9_code
def yX9_paid : MethodName := ⟨RX9, "paid", "(I)I"⟩
abbrev cX9_bill : ByteArray := prog_1_method_10_code
def yX9_bill : MethodName := ⟨RX9, "bill", "(II)I"⟩
abbrev cX9_bought : ByteArray := prog_1_method_11_code
def yX9_bought : MethodName := ⟨RX9, "bought", "(I)I"⟩
abbrev cX9_added : ByteArray := prog_1_method_12_code
def yX9_added : MethodName := ⟨RX9, "added", "(I)I"⟩
abbrev cX9_proof : ByteArray := prog_1_method_13_code
def yX9_proof : MethodName := ⟨RX9, "proof", "(II)I"⟩
abbrev cX9_raised : ByteArray := prog_1_method_14_code
def yX9_raised : MethodName := ⟨RX9, "raised", "(II)I"⟩
abbrev cX9_rounds : ByteArray := prog_1_method_15_code
def yX9_rounds : MethodName := ⟨RX9, "rounds", "(III)I"⟩
abbrev cX9_figures : ByteArray := prog_1_method_16_code
def yX9_figures : MethodName := ⟨RX9, "figures", "(II)I"⟩
abbrev cX9_rent : ByteArray := prog_1_method_17_code
def yX9_rent : MethodName := ⟨RX9, "rent", "(III)I"⟩
abbrev cX9_share : ByteArray := prog_1_method_18_code
def yX9_share : MethodName := ⟨RX9, "share", "(II)J"⟩
abbrev cX9_smudged : ByteArray := prog_1_method_19_code
def yX9_smudged : MethodName := ⟨RX9, "smudged", "(II)I"⟩
abbrev cX9_game : ByteArray := prog_1_method_20_code
def yX9_game : MethodName := ⟨RX9, "game", "(IIII)I"⟩
abbrev cX9_sheet : ByteArray := prog_1_method_21_code
def yX9_sheet : MethodName := ⟨RX9, "sheet", "(III)I"⟩
abbrev cX9_lose : ByteArray := prog_1_method_22_code
def yX9_lose : MethodName := ⟨RX9, "lose", "(I)I"⟩
abbrev cX9_lay : ByteArray := prog_1_method_23_code
def yX9_lay : MethodName := ⟨RX9, "lay", "(IIII)I"⟩
abbrev cX9_get : ByteArray := prog_1_method_24_code
def yX9_get : MethodName := ⟨RX9, "get", "(III)I"⟩
abbrev cX9_copy : ByteArray := prog_1_method_25_code
def yX9_copy : MethodName := ⟨RX9, "copy", "(IIIII)I"⟩
abbrev cX9_write : ByteArray := prog_1_method_26_code
def yX9_write : MethodName := ⟨RX9, "write", "(II)I"⟩
abbrev cX9_count : ByteArray := prog_1_method_27_code
def yX9_count : MethodName := ⟨RX9, "count", "(I)I"⟩
abbrev cX9_digest : ByteArray := prog_1_method_28_code
def yX9_digest : MethodName := ⟨RX9, "digest", "()J"⟩
abbrev cX9_goodsInto : ByteArray := prog_1_method_29_code
def yX9_goodsInto : MethodName := ⟨RX9, "goodsInto", "(J)J"⟩
abbrev cX9_figuresInto : ByteArray := prog_1_method_30_code
def yX9_figuresInto : MethodName := ⟨RX9, "figuresInto", "(J)J"⟩
abbrev cX9_finding : ByteArray := prog_1_method_31_code
def yX9_finding : MethodName := ⟨RX9, "finding", "(I)I"⟩
abbrev cX9_isGood : ByteArray := prog_1_method_32_code
def yX9_isGood : MethodName := ⟨RX9, "isGood", "(I)Z"⟩
abbrev cX9_isPartner : ByteArray := prog_1_method_33_code
def yX9_isPartner : MethodName := ⟨RX9, "isPartner", "(I)Z"⟩
abbrev cX9_isNumber : ByteArray := prog_1_method_34_code
def yX9_isNumber : MethodName := ⟨RX9, "isNumber", "(I)Z"⟩
abbrev cX9_isSheet : ByteArray := prog_1_method_35_code
def yX9_isSheet : MethodName := ⟨RX9, "isSheet", "(I)Z"⟩
abbrev cX9_isForm : ByteArray := prog_1_method_36_code
def yX9_isForm : MethodName := ⟨RX9, "isForm", "(I)Z"⟩
abbrev cX9_within : ByteArray := prog_1_method_37_code
def yX9_within : MethodName := ⟨RX9, "within", "(III)Z"⟩
def RX10 : String := "ReadFromRightModel"
def TX10 : u_T := fun k => match k with
  | 0 => ("ReadFromRightModel", "forms", "[I", true)
  | 1 => ("ReadFromRightModel", "sizes", "[I", true)
  | 2 => ("ReadFromRightModel", "items", "[I", true)
  | 3 => ("ReadFromRightModel", "moved", "[I", true)
  | 4 => ("ReadFromRightModel", "latest", "I", false)
  | 5 => ("ReadFromRightModel", "text", "[I", true)
  | 6 => ("ReadFromRightModel", "typed", "I", false)
  | 7 => ("ReadFromRightModel", "at", "I", false)
  | 8 => ("ReadFromRightModel", "goods", "I", false)
  | 9 => ("ReadFromRightModel", "prices", "[I", true)
  | 10 => ("ReadFromRightModel", "wanted", "I", false)
  | 11 => ("ReadFromRightModel", "partners", "[I", true)
  | 12 => ("ReadFromRightModel", "settings", "[I", true)
  | 13 => ("ReadFromRightModel", "least", "[I", true)
  | 14 => ("ReadFromRightModel", "most", "[I", true)
  | 15 => ("ReadFromRightModel", "costs", "[I", true)
  | 16 => ("ReadFromRightModel", "purses", "[I", true)
  | 17 => ("ReadFromRightModel", "parted", "[I", true)
  | 18 => ("ReadFromRightModel", "nextParted", "[I", true)
  | _ => ("ReadFromRightModel", "ends", "[I", true)
def tyX10 : Nat → FieldType := fun k => match k with
  | 0 => .array .int
  | 1 => .array .int
  | 2 => .array .int
  | 3 => .array .int
  | 4 => .int
  | 5 => .array .int
  | 6 => .int
  | 7 => .int
  | 8 => .int
  | 9 => .array .int
  | 10 => .int
  | 11 => .array .int
  | 12 => .array .int
  | 13 => .array .int
  | 14 => .array .int
  | 15 => .array .int
  | 16 => .array .int
  | 17 => .array .int
  | 18 => .array .int
  | _ => .array .int
abbrev wsX100 : List Cond := u_ws RX10 TX10 20
theorem nmX10 : ∀ a, a < 20 → ∀ b, b < 20 → a ≠ b → (TX10 a).2.1 ≠ (TX10 b).2.1 := by decide +kernel
theorem tyX10_ok : ∀ k, k < 20 → parseFieldDescriptor (TX10 k).2.2.1 = some (tyX10 k) := by decide +kernel
abbrev cX10_init : ByteArray := prog_12_method_1_code
def yX10_init : MethodName := ⟨RX10, "<init>", "()V"⟩
abbrev cX10_in : ByteArray := prog_12_method_3_code
def yX10_in : MethodName := ⟨RX10, "in", "(JJJ)Z"⟩
abbrev cX10_no : ByteArray := prog_12_method_4_code
def yX10_no : MethodName := ⟨RX10, "no", "(I)J"⟩
abbrev cX10_isTwo : ByteArray := prog_12_method_5_code
def yX10_isTwo : MethodName := ⟨RX10, "isTwo", "(I)Z"⟩
abbrev cX10_isIn : ByteArray := prog_12_method_6_code
def yX10_isIn : MethodName := ⟨RX10, "isIn", "(II)Z"⟩
abbrev cX10_ones : ByteArray := prog_12_method_7_code
def yX10_ones : MethodName := ⟨RX10, "ones", "(I)I"⟩
abbrev cX10_met : ByteArray := prog_12_method_8_code
def yX10_met : MethodName := ⟨RX10, "met", "(I)I"⟩
abbrev cX10_isSheet : ByteArray := prog_12_method_9_code
def yX10_isSheet : MethodName := ⟨RX10, "isSheet", "(I)Z"⟩
abbrev cX10_sheet : ByteArray := prog_12_method_10_code
def yX10_sheet : MethodName := ⟨RX10, "sheet", "(III)I"⟩
abbrev cX10_lose : ByteArray := prog_12_method_11_code
def yX10_lose : MethodName := ⟨RX10, "lose", "(I)I"⟩
abbrev cX10_lacks : ByteArray := prog_12_method_12_code
def yX10_lacks : MethodName := ⟨RX10, "lacks", "(III)I"⟩
abbrev cX10_cut : ByteArray := prog_12_method_13_code
def yX10_cut : MethodName := ⟨RX10, "cut", "(II)I"⟩
abbrev cX10_lay : ByteArray := prog_12_method_14_code
def yX10_lay : MethodName := ⟨RX10, "lay", "(IIII)I"⟩
abbrev cX10_get : ByteArray := prog_12_method_15_code
def yX10_get : MethodName := ⟨RX10, "get", "(III)I"⟩
abbrev cX10_copy : ByteArray := prog_12_method_16_code
def yX10_copy : MethodName := ⟨RX10, "copy", "(IIIII)I"⟩
abbrev cX10_type : ByteArray := prog_12_method_17_code
def yX10_type : MethodName := ⟨RX10, "type", "(I)I"⟩
abbrev cX10_wipe : ByteArray := prog_12_method_18_code
def yX10_wipe : MethodName := ⟨RX10, "wipe", "()I"⟩
abbrev cX10_here : ByteArray := prog_12_method_19_code
def yX10_here : MethodName := ⟨RX10, "here", "()I"⟩
abbrev cX10_none : ByteArray := prog_12_method_20_code
def yX10_none : MethodName := ⟨RX10, "none", "()I"⟩
abbrev cX10_readsPart : ByteArray := prog_12_method_21_code
def yX10_readsPart : MethodName := ⟨RX10, "readsPart", "()Z"⟩
abbrev cX10_reads : ByteArray := prog_12_method_22_code
def yX10_reads : MethodName := ⟨RX10, "reads", "()I"⟩
abbrev cX10_fault : ByteArray := prog_12_method_23_code
def yX10_fault : MethodName := ⟨RX10, "fault", "()I"⟩
abbrev cX10_isGood : ByteArray := prog_12_method_24_code
def yX10_isGood : MethodName := ⟨RX10, "isGood", "(I)Z"⟩
abbrev cX10_goodOf : ByteArray := prog_12_method_25_code
def yX10_goodOf : MethodName := ⟨RX10, "goodOf", "(II)I"⟩
abbrev cX10_good : ByteArray := prog_12_method_26_code
def yX10_good : MethodName := ⟨RX10, "good", "(II)I"⟩
abbrev cX10_set : ByteArray := prog_12_method_27_code
def yX10_set : MethodName := ⟨RX10, "set", "(II)I"⟩
abbrev cX10_isPartner : ByteArray := prog_12_method_28_code
def yX10_isPartner : MethodName := ⟨RX10, "isPartner", "(I)Z"⟩
abbrev cX10_partner : ByteArray := prog_12_method_29_code
def yX10_partner : MethodName := ⟨RX10, "partner", "(II)I"⟩
abbrev cX10_read : ByteArray := prog_12_method_30_code
def yX10_read : MethodName := ⟨RX10, "read", "(I)I"⟩
abbrev cX10_paidFor : ByteArray := prog_12_method_31_code
def yX10_paidFor : MethodName := ⟨RX10, "paidFor", "(I)I"⟩
abbrev cX10_isNumber : ByteArray := prog_12_method_32_code
def yX10_isNumber : MethodName := ⟨RX10, "isNumber", "(I)Z"⟩
abbrev cX10_paid : ByteArray := prog_12_method_33_code
def yX10_paid : MethodName := ⟨RX10, "paid", "(I)I"⟩
abbrev cX10_sumOf : ByteArray := prog_12_method_34_code
def yX10_sumOf : MethodName := ⟨RX10, "sumOf", "(I)I"⟩
abbrev cX10_whole : ByteArray := prog_12_method_35_code
def yX10_whole : MethodName := ⟨RX10, "whole", "()I"⟩
abbrev cX10_bill : ByteArray := prog_12_method_36_code
def yX10_bill : MethodName := ⟨RX10, "bill", "(II)I"⟩
abbrev cX10_findBills : ByteArray := prog_12_method_37_code
def yX10_findBills : MethodName := ⟨RX10, "findBills", "()V"⟩
abbrev cX10_boughtOf : ByteArray := prog_12_method_38_code
def yX10_boughtOf : MethodName := ⟨RX10, "boughtOf", "(I)I"⟩
abbrev cX10_bought : ByteArray := prog_12_method_39_code
def yX10_bought : MethodName := ⟨RX10, "bought", "(I)I"⟩
abbrev cX10_addedTo : ByteArray := prog_12_method_40_code
def yX10_addedTo : MethodName := ⟨RX10, "addedTo", "(I)I"⟩
abbrev cX10_added : ByteArray := prog_12_method_41_code
def yX10_added : MethodName := ⟨RX10, "added", "(I)I"⟩
abbrev cX10_gainBy : ByteArray := prog_12_method_42_code
def yX10_gainBy : MethodName := ⟨RX10, "gainBy", "(I)I"⟩
abbrev cX10_proofOf : ByteArray := prog_12_method_43_code
def yX10_proofOf : MethodName := ⟨RX10, "proofOf", "(II)I"⟩
abbrev cX10_proof : ByteArray := prog_12_method_44_code
def yX10_proof : MethodName := ⟨RX10, "proof", "(II)I"⟩
abbrev cX10_isProof : ByteArray := prog_12_method_45_code
def yX10_isProof : MethodName := ⟨RX10, "isProof", "(I)Z"⟩
abbrev cX10_raisedOf : ByteArray := prog_12_method_46_code
def yX10_raisedOf : MethodName := ⟨RX10, "raisedOf", "(II)I"⟩
abbrev cX10_raised : ByteArray := prog_12_method_47_code
def yX10_raised : MethodName := ⟨RX10, "raised", "(II)I"⟩
abbrev cX10_roundsOf : ByteArray := prog_12_method_48_code
def yX10_roundsOf : MethodName := ⟨RX10, "roundsOf", "(III)I"⟩
abbrev cX10_rounds : ByteArray := prog_12_method_49_code
def yX10_rounds : MethodName := ⟨RX10, "rounds", "(III)I"⟩
abbrev cX10_figuresOf : ByteArray := prog_12_method_50_code
def yX10_figuresOf : MethodName := ⟨RX10, "figuresOf", "(II)I"⟩
abbrev cX10_figures : ByteArray := prog_12_method_51_code
def yX10_figures : MethodName := ⟨RX10, "figures", "(II)I"⟩
abbrev cX10_rentOf : ByteArray := prog_12_method_52_code
def yX10_rentOf : MethodName := ⟨RX10, "rentOf", "(III)I"⟩
abbrev cX10_rent : ByteArray := prog_12_method_53_code
def yX10_rent : MethodName := ⟨RX10, "rent", "(III)I"⟩
abbrev cX10_worth : ByteArray := prog_12_method_54_code
def yX10_worth : MethodName := ⟨RX10, "worth", "(I)I"⟩
abbrev cX10_part : ByteArray := prog_12_method_55_code
def yX10_part : MethodName := ⟨RX10, "part", "(JJI)J"⟩
abbrev cX10_shareOf : ByteArray := prog_12_method_56_code
def yX10_shareOf : MethodName := ⟨RX10, "shareOf", "(II)J"⟩
abbrev cX10_share : ByteArray := prog_12_method_57_code
def yX10_share : MethodName := ⟨RX10, "share", "(II)J"⟩
abbrev cX10_fits : ByteArray := prog_12_method_58_code
def yX10_fits : MethodName := ⟨RX10, "fits", "(II)Z"⟩
abbrev cX10_smudged : ByteArray := prog_12_method_59_code
def yX10_smudged : MethodName := ⟨RX10, "smudged", "(II)I"⟩
abbrev cX10_value : ByteArray := prog_12_method_60_code
def yX10_value : MethodName := ⟨RX10, "value", "(III)I"⟩
abbrev cX10_gameOf : ByteArray := prog_12_method_61_code
def yX10_gameOf : MethodName := ⟨RX10, "gameOf", "(IIII)I"⟩
abbrev cX10_game : ByteArray := prog_12_method_62_code
def yX10_game : MethodName := ⟨RX10, "game", "(IIII)I"⟩
abbrev cX10_write : ByteArray := prog_12_method_63_code
def yX10_write : MethodName := ⟨RX10, "write", "(II)I"⟩
abbrev cX10_count : ByteArray := prog_12_method_64_code
def yX10_count : MethodName := ⟨RX10, "count", "(I)I"⟩
abbrev cX10_digest : ByteArray := prog_12_method_65_code
def yX10_digest : MethodName := ⟨RX10, "digest", "()J"⟩
def RJ6 : String := "java/lang/Integer"
def TJ6 : u_T := fun k => match k with
  | _ => ("", "", "", false)
def tyJ6 : Nat → FieldType := fun k => match k with
  | _ => .int
abbrev wsJ60 : List Cond := u_ws RJ6 TJ6 0
theorem nmJ6 : ∀ a, a < 0 → ∀ b, b < 0 → a ≠ b → (TJ6 a).2.1 ≠ (TJ6 b).2.1 := by decide +kernel
theorem tyJ6_ok : ∀ k, k < 0 → parseFieldDescriptor (TJ6 k).2.2.1 = some (tyJ6 k) := by decide +kernel
abbrev cJ6_bitCount_0f7a4 : ByteArray := prog_13_method_49_code
def yJ6_bitCount_0f7a4 : MethodName := ⟨RJ6, "bitCount", "(I)I"⟩
def RJ9 : String := "java/lang/Math"
def TJ9 : u_T := fun k => match k with
  | _ => ("", "", "", false)
def tyJ9 : Nat → FieldType := fun k => match k with
  | _ => .int
abbrev wsJ90 : List Cond := u_ws RJ9 TJ9 0
theorem nmJ9 : ∀ a, a < 0 → ∀ b, b < 0 → a ≠ b → (TJ9 a).2.1 ≠ (TJ9 b).2.1 := by decide +kernel
theorem tyJ9_ok : ∀ k, k < 0 → parseFieldDescriptor (TJ9 k).2.2.1 = some (tyJ9 k) := by decide +kernel
abbrev cJ9_abs_0f7a4 : ByteArray := prog_14_method_59_code
def yJ9_abs_0f7a4 : MethodName := ⟨RJ9, "abs", "(I)I"⟩
abbrev cJ9_max_7cf53 : ByteArray := prog_14_method_65_code
def yJ9_max_7cf53 : MethodName := ⟨RJ9, "max", "(II)I"⟩
abbrev cJ9_min_7cf53 : ByteArray := prog_14_method_69_code
def yJ9_min_7cf53 : MethodName := ⟨RJ9, "min", "(II)I"⟩
def RJ10 : String := "java/lang/System"
def TJ10 : u_T := fun k => match k with
  | _ => ("", "", "", false)
def tyJ10 : Nat → FieldType := fun k => match k with
  | _ => .int
abbrev wsJ100 : List Cond := u_ws RJ10 TJ10 0
theorem nmJ10 : ∀ a, a < 0 → ∀ b, b < 0 → a ≠ b → (TJ10 a).2.1 ≠ (TJ10 b).2.1 := by decide +kernel
theorem tyJ10_ok : ∀ k, k < 0 → parseFieldDescriptor (TJ10 k).2.2.1 = some (tyJ10 k) := by decide +kernel
def RJ7 : String := "java/util/Arrays"
def TJ7 : u_T := fun k => match k with
  | _ => ("", "", "", false)
def tyJ7 : Nat → FieldType := fun k => match k with
  | _ => .int
abbrev wsJ70 : List Cond := u_ws RJ7 TJ7 0
theorem nmJ7 : ∀ a, a < 0 → ∀ b, b < 0 → a ≠ b → (TJ7 a).2.1 ≠ (TJ7 b).2.1 := by decide +kernel
theorem tyJ7_ok : ∀ k, k < 0 → parseFieldDescriptor (TJ7 k).2.2.1 = some (tyJ7 k) := by decide +kernel
abbrev cJ7_fill_53178 : ByteArray := prog_16_method_103_code
def yJ7_fill_53178 : MethodName := ⟨RJ7, "fill", "([II)V"⟩
def RL : String := "ReadFromRightLaw"
abbrev cL_law : ByteArray := code
def yL_law : MethodName := ⟨RL, "law", "([I)Z"⟩
