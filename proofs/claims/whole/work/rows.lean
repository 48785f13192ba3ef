section
-- ===== PART A: goes FIRST, ahead of the names: the tables' words, and 'selects' of the private methods out of them =====
/-- a private method of a class that the tables say can be made, by its rows of tables_1 -/
def lw_okq (q : MethodName × Nat) : Prop := (q.1.cls ≠ "java/lang/invoke/MethodHandle" ∧ q.1.cls ≠ "java/lang/invoke/VarHandle") ∧ Cond.instantiable q.1.cls q.2 ∈ tables_1 ∧ Cond.privateMethod q.1 ∈ tables_1 ∧ Cond.instanceMethod q.1 ∈ tables_1
theorem lw_p0 : lw_okq (⟨"ReadFromRight$Goods", "understand", "()V"⟩, 6) := ⟨⟨by decide +kernel, by decide +kernel⟩, List.mem_of_getElem? (i := 36) (by decide +kernel), List.mem_of_getElem? (i := 253) (by decide +kernel), List.mem_of_getElem? (i := 254) (by decide +kernel)⟩
theorem lw_p1 : lw_okq (⟨"ReadFromRight$Goods", "understandGoods", "()I"⟩, 6) := ⟨⟨by decide +kernel, by decide +kernel⟩, List.mem_of_getElem? (i := 36) (by decide +kernel), List.mem_of_getElem? (i := 257) (by decide +kernel), List.mem_of_getElem? (i := 258) (by decide +kernel)⟩
theorem lw_p2 : lw_okq (⟨"ReadFromRight$Goods", "endOfFigures", "(I)I"⟩, 6) := ⟨⟨by decide +kernel, by decide +kernel⟩, List.mem_of_getElem? (i := 36) (by decide +kernel), List.mem_of_getElem? (i := 261) (by decide +kernel), List.mem_of_getElem? (i := 262) (by decide +kernel)⟩
theorem lw_p3 : lw_okq (⟨"ReadFromRight$Goods", "byteAt", "(I)I"⟩, 6) := ⟨⟨by decide +kernel, by decide +kernel⟩, List.mem_of_getElem? (i := 36) (by decide +kernel), List.mem_of_getElem? (i := 265) (by decide +kernel), List.mem_of_getElem? (i := 266) (by decide +kernel)⟩
theorem lw_p4 : lw_okq (⟨"ReadFromRight$Goods", "numberBetween", "(II)I"⟩, 6) := ⟨⟨by decide +kernel, by decide +kernel⟩, List.mem_of_getElem? (i := 36) (by decide +kernel), List.mem_of_getElem? (i := 269) (by decide +kernel), List.mem_of_getElem? (i := 270) (by decide +kernel)⟩
theorem lw_p5 : lw_okq (⟨"ReadFromRight", "isGood", "(I)Z"⟩, 11) := ⟨⟨by decide +kernel, by decide +kernel⟩, List.mem_of_getElem? (i := 17) (by decide +kernel), List.mem_of_getElem? (i := 297) (by decide +kernel), List.mem_of_getElem? (i := 298) (by decide +kernel)⟩
theorem lw_p6 : lw_okq (⟨"ReadFromRight", "finding", "(I)I"⟩, 11) := ⟨⟨by decide +kernel, by decide +kernel⟩, List.mem_of_getElem? (i := 17) (by decide +kernel), List.mem_of_getElem? (i := 359) (by decide +kernel), List.mem_of_getElem? (i := 360) (by decide +kernel)⟩
theorem lw_p7 : lw_okq (⟨"ReadFromRight$Till", "reckonBills", "()V"⟩, 12) := ⟨⟨by decide +kernel, by decide +kernel⟩, List.mem_of_getElem? (i := 61) (by decide +kernel), List.mem_of_getElem? (i := 397) (by decide +kernel), List.mem_of_getElem? (i := 398) (by decide +kernel)⟩
theorem lw_p8 : lw_okq (⟨"ReadFromRight$Till", "reckonBought", "()V"⟩, 12) := ⟨⟨by decide +kernel, by decide +kernel⟩, List.mem_of_getElem? (i := 61) (by decide +kernel), List.mem_of_getElem? (i := 416) (by decide +kernel), List.mem_of_getElem? (i := 417) (by decide +kernel)⟩
theorem lw_p9 : lw_okq (⟨"ReadFromRight$Till", "takeBest", "(I)V"⟩, 12) := ⟨⟨by decide +kernel, by decide +kernel⟩, List.mem_of_getElem? (i := 61) (by decide +kernel), List.mem_of_getElem? (i := 427) (by decide +kernel), List.mem_of_getElem? (i := 428) (by decide +kernel)⟩
theorem lw_p10 : lw_okq (⟨"ReadFromRight$Till", "partOnceMore", "(I)V"⟩, 12) := ⟨⟨by decide +kernel, by decide +kernel⟩, List.mem_of_getElem? (i := 61) (by decide +kernel), List.mem_of_getElem? (i := 440) (by decide +kernel), List.mem_of_getElem? (i := 441) (by decide +kernel)⟩
theorem lw_p11 : lw_okq (⟨"ReadFromRight$Till", "partSet", "(II)V"⟩, 12) := ⟨⟨by decide +kernel, by decide +kernel⟩, List.mem_of_getElem? (i := 61) (by decide +kernel), List.mem_of_getElem? (i := 444) (by decide +kernel), List.mem_of_getElem? (i := 445) (by decide +kernel)⟩
theorem lw_p12 : lw_okq (⟨"ReadFromRight$Till", "isProof", "(IIII)Z"⟩, 12) := ⟨⟨by decide +kernel, by decide +kernel⟩, List.mem_of_getElem? (i := 61) (by decide +kernel), List.mem_of_getElem? (i := 489) (by decide +kernel), List.mem_of_getElem? (i := 490) (by decide +kernel)⟩
theorem lw_p13 : lw_okq (⟨"ReadFromRight$FigureCount", "countAll", "(I)V"⟩, 4) := ⟨⟨by decide +kernel, by decide +kernel⟩, List.mem_of_getElem? (i := 136) (by decide +kernel), List.mem_of_getElem? (i := 525) (by decide +kernel), List.mem_of_getElem? (i := 526) (by decide +kernel)⟩
theorem lw_p14 : lw_okq (⟨"ReadFromRight$FigureCount", "take", "(II)V"⟩, 4) := ⟨⟨by decide +kernel, by decide +kernel⟩, List.mem_of_getElem? (i := 136) (by decide +kernel), List.mem_of_getElem? (i := 530) (by decide +kernel), List.mem_of_getElem? (i := 531) (by decide +kernel)⟩
theorem lw_p15 : lw_okq (⟨"ReadFromRight$Months", "bestOfTwo", "(IZ)I"⟩, 3) := ⟨⟨by decide +kernel, by decide +kernel⟩, List.mem_of_getElem? (i := 155) (by decide +kernel), List.mem_of_getElem? (i := 547) (by decide +kernel), List.mem_of_getElem? (i := 548) (by decide +kernel)⟩
def lw_privs_1 : List (MethodName × Nat) := [(⟨"ReadFromRight$Goods", "understand", "()V"⟩, 6), (⟨"ReadFromRight$Goods", "understandGoods", "()I"⟩, 6), (⟨"ReadFromRight$Goods", "endOfFigures", "(I)I"⟩, 6), (⟨"ReadFromRight$Goods", "byteAt", "(I)I"⟩, 6), (⟨"ReadFromRight$Goods", "numberBetween", "(II)I"⟩, 6), (⟨"ReadFromRight", "isGood", "(I)Z"⟩, 11), (⟨"ReadFromRight", "finding", "(I)I"⟩, 11), (⟨"ReadFromRight$Till", "reckonBills", "()V"⟩, 12), (⟨"ReadFromRight$Till", "reckonBought", "()V"⟩, 12), (⟨"ReadFromRight$Till", "takeBest", "(I)V"⟩, 12), (⟨"ReadFromRight$Till", "partOnceMore", "(I)V"⟩, 12), (⟨"ReadFromRight$Till", "partSet", "(II)V"⟩, 12), (⟨"ReadFromRight$Till", "isProof", "(IIII)Z"⟩, 12), (⟨"ReadFromRight$FigureCount", "countAll", "(I)V"⟩, 4), (⟨"ReadFromRight$FigureCount", "take", "(II)V"⟩, 4), (⟨"ReadFromRight$Months", "bestOfTwo", "(IZ)I"⟩, 3)]
theorem lw_r1 : ∀ q ∈ lw_privs_1, lw_okq q := List.forall_mem_cons.mpr ⟨lw_p0, List.forall_mem_cons.mpr ⟨lw_p1, List.forall_mem_cons.mpr ⟨lw_p2, List.forall_mem_cons.mpr ⟨lw_p3, List.forall_mem_cons.mpr ⟨lw_p4, List.forall_mem_cons.mpr ⟨lw_p5, List.forall_mem_cons.mpr ⟨lw_p6, List.forall_mem_cons.mpr ⟨lw_p7, List.forall_mem_cons.mpr ⟨lw_p8, List.forall_mem_cons.mpr ⟨lw_p9, List.forall_mem_cons.mpr ⟨lw_p10, List.forall_mem_cons.mpr ⟨lw_p11, List.forall_mem_cons.mpr ⟨lw_p12, List.forall_mem_cons.mpr ⟨lw_p13, List.forall_mem_cons.mpr ⟨lw_p14, List.forall_mem_cons.mpr ⟨lw_p15, fun _ h => absurd h List.not_mem_nil⟩⟩⟩⟩⟩⟩⟩⟩⟩⟩⟩⟩⟩⟩⟩⟩
theorem lw_p16 : lw_okq (⟨"ReadFromRight$Partners", "paidBySet", "(I)I"⟩, 3) := ⟨⟨by decide +kernel, by decide +kernel⟩, List.mem_of_getElem? (i := 104) (by decide +kernel), List.mem_of_getElem? (i := 563) (by decide +kernel), List.mem_of_getElem? (i := 564) (by decide +kernel)⟩
theorem lw_p17 : lw_okq (⟨"ReadFromRight", "goodsInto", "(J)J"⟩, 11) := ⟨⟨by decide +kernel, by decide +kernel⟩, List.mem_of_getElem? (i := 17) (by decide +kernel), List.mem_of_getElem? (i := 681) (by decide +kernel), List.mem_of_getElem? (i := 682) (by decide +kernel)⟩
theorem lw_p18 : lw_okq (⟨"ReadFromRight", "figuresInto", "(J)J"⟩, 11) := ⟨⟨by decide +kernel, by decide +kernel⟩, List.mem_of_getElem? (i := 17) (by decide +kernel), List.mem_of_getElem? (i := 692) (by decide +kernel), List.mem_of_getElem? (i := 693) (by decide +kernel)⟩
theorem lw_p19 : lw_okq (⟨"ReadFromRightModel", "met", "(I)I"⟩, 20) := ⟨⟨by decide +kernel, by decide +kernel⟩, List.mem_of_getElem? (i := 700) (by decide +kernel), List.mem_of_getElem? (i := 779) (by decide +kernel), List.mem_of_getElem? (i := 780) (by decide +kernel)⟩
theorem lw_p20 : lw_okq (⟨"ReadFromRightModel", "lacks", "(III)I"⟩, 20) := ⟨⟨by decide +kernel, by decide +kernel⟩, List.mem_of_getElem? (i := 700) (by decide +kernel), List.mem_of_getElem? (i := 791) (by decide +kernel), List.mem_of_getElem? (i := 792) (by decide +kernel)⟩
theorem lw_p21 : lw_okq (⟨"ReadFromRightModel", "reads", "()I"⟩, 20) := ⟨⟨by decide +kernel, by decide +kernel⟩, List.mem_of_getElem? (i := 700) (by decide +kernel), List.mem_of_getElem? (i := 820) (by decide +kernel), List.mem_of_getElem? (i := 821) (by decide +kernel)⟩
theorem lw_p22 : lw_okq (⟨"ReadFromRightModel", "readsPart", "()Z"⟩, 20) := ⟨⟨by decide +kernel, by decide +kernel⟩, List.mem_of_getElem? (i := 700) (by decide +kernel), List.mem_of_getElem? (i := 824) (by decide +kernel), List.mem_of_getElem? (i := 825) (by decide +kernel)⟩
theorem lw_p23 : lw_okq (⟨"ReadFromRightModel", "here", "()I"⟩, 20) := ⟨⟨by decide +kernel, by decide +kernel⟩, List.mem_of_getElem? (i := 700) (by decide +kernel), List.mem_of_getElem? (i := 828) (by decide +kernel), List.mem_of_getElem? (i := 829) (by decide +kernel)⟩
theorem lw_p24 : lw_okq (⟨"ReadFromRightModel", "none", "()I"⟩, 20) := ⟨⟨by decide +kernel, by decide +kernel⟩, List.mem_of_getElem? (i := 700) (by decide +kernel), List.mem_of_getElem? (i := 834) (by decide +kernel), List.mem_of_getElem? (i := 835) (by decide +kernel)⟩
theorem lw_p25 : lw_okq (⟨"ReadFromRightModel", "isGood", "(I)Z"⟩, 20) := ⟨⟨by decide +kernel, by decide +kernel⟩, List.mem_of_getElem? (i := 700) (by decide +kernel), List.mem_of_getElem? (i := 842) (by decide +kernel), List.mem_of_getElem? (i := 843) (by decide +kernel)⟩
theorem lw_p26 : lw_okq (⟨"ReadFromRightModel", "goodOf", "(II)I"⟩, 20) := ⟨⟨by decide +kernel, by decide +kernel⟩, List.mem_of_getElem? (i := 700) (by decide +kernel), List.mem_of_getElem? (i := 846) (by decide +kernel), List.mem_of_getElem? (i := 847) (by decide +kernel)⟩
theorem lw_p27 : lw_okq (⟨"ReadFromRightModel", "paidFor", "(I)I"⟩, 20) := ⟨⟨by decide +kernel, by decide +kernel⟩, List.mem_of_getElem? (i := 700) (by decide +kernel), List.mem_of_getElem? (i := 875) (by decide +kernel), List.mem_of_getElem? (i := 876) (by decide +kernel)⟩
theorem lw_p28 : lw_okq (⟨"ReadFromRightModel", "whole", "()I"⟩, 20) := ⟨⟨by decide +kernel, by decide +kernel⟩, List.mem_of_getElem? (i := 700) (by decide +kernel), List.mem_of_getElem? (i := 883) (by decide +kernel), List.mem_of_getElem? (i := 884) (by decide +kernel)⟩
theorem lw_p29 : lw_okq (⟨"ReadFromRightModel", "sumOf", "(I)I"⟩, 20) := ⟨⟨by decide +kernel, by decide +kernel⟩, List.mem_of_getElem? (i := 700) (by decide +kernel), List.mem_of_getElem? (i := 890) (by decide +kernel), List.mem_of_getElem? (i := 891) (by decide +kernel)⟩
theorem lw_p30 : lw_okq (⟨"ReadFromRightModel", "boughtOf", "(I)I"⟩, 20) := ⟨⟨by decide +kernel, by decide +kernel⟩, List.mem_of_getElem? (i := 700) (by decide +kernel), List.mem_of_getElem? (i := 901) (by decide +kernel), List.mem_of_getElem? (i := 902) (by decide +kernel)⟩
theorem lw_p31 : lw_okq (⟨"ReadFromRightModel", "findBills", "()V"⟩, 20) := ⟨⟨by decide +kernel, by decide +kernel⟩, List.mem_of_getElem? (i := 700) (by decide +kernel), List.mem_of_getElem? (i := 905) (by decide +kernel), List.mem_of_getElem? (i := 906) (by decide +kernel)⟩
def lw_privs_2 : List (MethodName × Nat) := [(⟨"ReadFromRight$Partners", "paidBySet", "(I)I"⟩, 3), (⟨"ReadFromRight", "goodsInto", "(J)J"⟩, 11), (⟨"ReadFromRight", "figuresInto", "(J)J"⟩, 11), (⟨"ReadFromRightModel", "met", "(I)I"⟩, 20), (⟨"ReadFromRightModel", "lacks", "(III)I"⟩, 20), (⟨"ReadFromRightModel", "reads", "()I"⟩, 20), (⟨"ReadFromRightModel", "readsPart", "()Z"⟩, 20), (⟨"ReadFromRightModel", "here", "()I"⟩, 20), (⟨"ReadFromRightModel", "none", "()I"⟩, 20), (⟨"ReadFromRightModel", "isGood", "(I)Z"⟩, 20), (⟨"ReadFromRightModel", "goodOf", "(II)I"⟩, 20), (⟨"ReadFromRightModel", "paidFor", "(I)I"⟩, 20), (⟨"ReadFromRightModel", "whole", "()I"⟩, 20), (⟨"ReadFromRightModel", "sumOf", "(I)I"⟩, 20), (⟨"ReadFromRightModel", "boughtOf", "(I)I"⟩, 20), (⟨"ReadFromRightModel", "findBills", "()V"⟩, 20)]
theorem lw_r2 : ∀ q ∈ lw_privs_2, lw_okq q := List.forall_mem_cons.mpr ⟨lw_p16, List.forall_mem_cons.mpr ⟨lw_p17, List.forall_mem_cons.mpr ⟨lw_p18, List.forall_mem_cons.mpr ⟨lw_p19, List.forall_mem_cons.mpr ⟨lw_p20, List.forall_mem_cons.mpr ⟨lw_p21, List.forall_mem_cons.mpr ⟨lw_p22, List.forall_mem_cons.mpr ⟨lw_p23, List.forall_mem_cons.mpr ⟨lw_p24, List.forall_mem_cons.mpr ⟨lw_p25, List.forall_mem_cons.mpr ⟨lw_p26, List.forall_mem_cons.mpr ⟨lw_p27, List.forall_mem_cons.mpr ⟨lw_p28, List.forall_mem_cons.mpr ⟨lw_p29, List.forall_mem_cons.mpr ⟨lw_p30, List.forall_mem_cons.mpr ⟨lw_p31, fun _ h => absurd h List.not_mem_nil⟩⟩⟩⟩⟩⟩⟩⟩⟩⟩⟩⟩⟩⟩⟩⟩
theorem lw_p32 : lw_okq (⟨"ReadFromRightModel", "addedTo", "(I)I"⟩, 20) := ⟨⟨by decide +kernel, by decide +kernel⟩, List.mem_of_getElem? (i := 700) (by decide +kernel), List.mem_of_getElem? (i := 914) (by decide +kernel), List.mem_of_getElem? (i := 915) (by decide +kernel)⟩
theorem lw_p33 : lw_okq (⟨"ReadFromRightModel", "proofOf", "(II)I"⟩, 20) := ⟨⟨by decide +kernel, by decide +kernel⟩, List.mem_of_getElem? (i := 700) (by decide +kernel), List.mem_of_getElem? (i := 923) (by decide +kernel), List.mem_of_getElem? (i := 924) (by decide +kernel)⟩
theorem lw_p34 : lw_okq (⟨"ReadFromRightModel", "gainBy", "(I)I"⟩, 20) := ⟨⟨by decide +kernel, by decide +kernel⟩, List.mem_of_getElem? (i := 700) (by decide +kernel), List.mem_of_getElem? (i := 930) (by decide +kernel), List.mem_of_getElem? (i := 931) (by decide +kernel)⟩
theorem lw_p35 : lw_okq (⟨"ReadFromRightModel", "raisedOf", "(II)I"⟩, 20) := ⟨⟨by decide +kernel, by decide +kernel⟩, List.mem_of_getElem? (i := 700) (by decide +kernel), List.mem_of_getElem? (i := 941) (by decide +kernel), List.mem_of_getElem? (i := 942) (by decide +kernel)⟩
theorem lw_p36 : lw_okq (⟨"ReadFromRightModel", "isProof", "(I)Z"⟩, 20) := ⟨⟨by decide +kernel, by decide +kernel⟩, List.mem_of_getElem? (i := 700) (by decide +kernel), List.mem_of_getElem? (i := 945) (by decide +kernel), List.mem_of_getElem? (i := 946) (by decide +kernel)⟩
theorem lw_p37 : lw_okq (⟨"ReadFromRightModel", "roundsOf", "(III)I"⟩, 20) := ⟨⟨by decide +kernel, by decide +kernel⟩, List.mem_of_getElem? (i := 700) (by decide +kernel), List.mem_of_getElem? (i := 953) (by decide +kernel), List.mem_of_getElem? (i := 954) (by decide +kernel)⟩
theorem lw_p38 : lw_okq (⟨"ReadFromRightModel", "figuresOf", "(II)I"⟩, 20) := ⟨⟨by decide +kernel, by decide +kernel⟩, List.mem_of_getElem? (i := 700) (by decide +kernel), List.mem_of_getElem? (i := 961) (by decide +kernel), List.mem_of_getElem? (i := 962) (by decide +kernel)⟩
theorem lw_p39 : lw_okq (⟨"ReadFromRightModel", "rentOf", "(III)I"⟩, 20) := ⟨⟨by decide +kernel, by decide +kernel⟩, List.mem_of_getElem? (i := 700) (by decide +kernel), List.mem_of_getElem? (i := 971) (by decide +kernel), List.mem_of_getElem? (i := 972) (by decide +kernel)⟩
theorem lw_p40 : lw_okq (⟨"ReadFromRightModel", "shareOf", "(II)J"⟩, 20) := ⟨⟨by decide +kernel, by decide +kernel⟩, List.mem_of_getElem? (i := 700) (by decide +kernel), List.mem_of_getElem? (i := 979) (by decide +kernel), List.mem_of_getElem? (i := 980) (by decide +kernel)⟩
theorem lw_p41 : lw_okq (⟨"ReadFromRightModel", "worth", "(I)I"⟩, 20) := ⟨⟨by decide +kernel, by decide +kernel⟩, List.mem_of_getElem? (i := 700) (by decide +kernel), List.mem_of_getElem? (i := 983) (by decide +kernel), List.mem_of_getElem? (i := 984) (by decide +kernel)⟩
theorem lw_p42 : lw_okq (⟨"ReadFromRightModel", "fits", "(II)Z"⟩, 20) := ⟨⟨by decide +kernel, by decide +kernel⟩, List.mem_of_getElem? (i := 700) (by decide +kernel), List.mem_of_getElem? (i := 999) (by decide +kernel), List.mem_of_getElem? (i := 1000) (by decide +kernel)⟩
theorem lw_p43 : lw_okq (⟨"ReadFromRightModel", "gameOf", "(IIII)I"⟩, 20) := ⟨⟨by decide +kernel, by decide +kernel⟩, List.mem_of_getElem? (i := 700) (by decide +kernel), List.mem_of_getElem? (i := 1009) (by decide +kernel), List.mem_of_getElem? (i := 1010) (by decide +kernel)⟩
theorem lw_p44 : lw_okq (⟨"ReadFromRightModel", "value", "(III)I"⟩, 20) := ⟨⟨by decide +kernel, by decide +kernel⟩, List.mem_of_getElem? (i := 700) (by decide +kernel), List.mem_of_getElem? (i := 1013) (by decide +kernel), List.mem_of_getElem? (i := 1014) (by decide +kernel)⟩
def lw_privs_3 : List (MethodName × Nat) := [(⟨"ReadFromRightModel", "addedTo", "(I)I"⟩, 20), (⟨"ReadFromRightModel", "proofOf", "(II)I"⟩, 20), (⟨"ReadFromRightModel", "gainBy", "(I)I"⟩, 20), (⟨"ReadFromRightModel", "raisedOf", "(II)I"⟩, 20), (⟨"ReadFromRightModel", "isProof", "(I)Z"⟩, 20), (⟨"ReadFromRightModel", "roundsOf", "(III)I"⟩, 20), (⟨"ReadFromRightModel", "figuresOf", "(II)I"⟩, 20), (⟨"ReadFromRightModel", "rentOf", "(III)I"⟩, 20), (⟨"ReadFromRightModel", "shareOf", "(II)J"⟩, 20), (⟨"ReadFromRightModel", "worth", "(I)I"⟩, 20), (⟨"ReadFromRightModel", "fits", "(II)Z"⟩, 20), (⟨"ReadFromRightModel", "gameOf", "(IIII)I"⟩, 20), (⟨"ReadFromRightModel", "value", "(III)I"⟩, 20)]
theorem lw_r3 : ∀ q ∈ lw_privs_3, lw_okq q := List.forall_mem_cons.mpr ⟨lw_p32, List.forall_mem_cons.mpr ⟨lw_p33, List.forall_mem_cons.mpr ⟨lw_p34, List.forall_mem_cons.mpr ⟨lw_p35, List.forall_mem_cons.mpr ⟨lw_p36, List.forall_mem_cons.mpr ⟨lw_p37, List.forall_mem_cons.mpr ⟨lw_p38, List.forall_mem_cons.mpr ⟨lw_p39, List.forall_mem_cons.mpr ⟨lw_p40, List.forall_mem_cons.mpr ⟨lw_p41, List.forall_mem_cons.mpr ⟨lw_p42, List.forall_mem_cons.mpr ⟨lw_p43, List.forall_mem_cons.mpr ⟨lw_p44, fun _ h => absurd h List.not_mem_nil⟩⟩⟩⟩⟩⟩⟩⟩⟩⟩⟩⟩⟩
def lw_privs : List (MethodName × Nat) := lw_privs_1 ++ (lw_privs_2 ++ (lw_privs_3))
def lw_tbl : List Cond := k2_sels lw_privs ++ tables_1
theorem lw_privs_ok : ∀ q ∈ lw_privs, lw_okq q := by
  show ∀ q ∈ lw_privs_1 ++ (lw_privs_2 ++ (lw_privs_3)), lw_okq q
  exact List.forall_mem_append.mpr ⟨lw_r1, List.forall_mem_append.mpr ⟨lw_r2, lw_r3⟩⟩
-- names, as printed for this claim
def RX0 : String := "ReadFromRight$FigureCount"
def TX0 : u_T := fun k => match k with
  | 0 => ("ReadFromRight$FigureCount", "law", "LReadFromRight$Law;", true)
  | 1 => ("ReadFromRight$FigureCount", "answers", "[I", true)
  | 2 => ("ReadFromRight$FigureCount", "counted", "I", false)
  | _ => ("ReadFromRight$FigureCount", "farthestBy", "I", false)
def tyX0 : Nat → FieldType := fun k => match k with
  | 0 => .object "ReadFromRight$Law"
  | 1 => .array .int
  | 2 => .int
  | _ => .int
abbrev wsX00 : List Cond := u_ws RX0 TX0 4
theorem nmX0 : ∀ a, a < 4 → ∀ b, b < 4 → a ≠ b → (TX0 a).2.1 ≠ (TX0 b).2.1 := by decide +kernel
theorem tyX0_ok : ∀ k, k < 4 → parseFieldDescriptor (TX0 k).2.2.1 = some (tyX0 k) := by decide +kernel
abbrev cX0_init : ByteArray := prog_2_method_1_code
def yX0_init : MethodName := ⟨RX0, "<init>", "(LReadFromRight$Law;)V"⟩
abbrev cX0_forget : ByteArray := prog_2_method_2_code
def yX0_forget : MethodName := ⟨RX0, "forget", "()V"⟩
abbrev cX0_answer : ByteArray := prog_2_method_3_code
def yX0_answer : MethodName := ⟨RX0, "answer", "(II)I"⟩
abbrev cX0_countAll : ByteArray := prog_2_method_4_code
def yX0_countAll : MethodName := ⟨RX0, "countAll", "(I)V"⟩
abbrev cX0_take : ByteArray := prog_2_method_5_code
def yX0_take : MethodName := ⟨RX0, "take", "(II)V"⟩
def RX1 : String := "ReadFromRight$Goods"
def TX1 : u_T := fun k => match k with
  | 0 => ("ReadFromRight$Goods", "bytes", "[I", true)
  | 1 => ("ReadFromRight$Goods", "prices", "[I", true)
  | 2 => ("ReadFromRight$Goods", "used", "I", false)
  | 3 => ("ReadFromRight$Goods", "many", "I", false)
  | 4 => ("ReadFromRight$Goods", "wanted", "I", false)
  | _ => ("ReadFromRight$Goods", "badPlace", "I", false)
def tyX1 : Nat → FieldType := fun k => match k with
  | 0 => .array .int
  | 1 => .array .int
  | 2 => .int
  | 3 => .int
  | 4 => .int
  | _ => .int
abbrev wsX10 : List Cond := u_ws RX1 TX1 6
theorem nmX1 : ∀ a, a < 6 → ∀ b, b < 6 → a ≠ b → (TX1 a).2.1 ≠ (TX1 b).2.1 := by decide +kernel
theorem tyX1_ok : ∀ k, k < 6 → parseFieldDescriptor (TX1 k).2.2.1 = some (tyX1 k) := by decide +kernel
abbrev cX1_init : ByteArray := prog_3_method_1_code
def yX1_init : MethodName := ⟨RX1, "<init>", "()V"⟩
abbrev cX1_length : ByteArray := prog_3_method_2_code
def yX1_length : MethodName := ⟨RX1, "length", "()I"⟩
abbrev cX1_size : ByteArray := prog_3_method_3_code
def yX1_size : MethodName := ⟨RX1, "size", "()I"⟩
abbrev cX1_allBits : ByteArray := prog_3_method_4_code
def yX1_allBits : MethodName := ⟨RX1, "allBits", "()I"⟩
abbrev cX1_wantedBits : ByteArray := prog_3_method_5_code
def yX1_wantedBits : MethodName := ⟨RX1, "wantedBits", "()I"⟩
abbrev cX1_faultPlace : ByteArray := prog_3_method_6_code
def yX1_faultPlace : MethodName := ⟨RX1, "faultPlace", "()I"⟩
abbrev cX1_priceOf : ByteArray := prog_3_method_7_code
def yX1_priceOf : MethodName := ⟨RX1, "priceOf", "(I)I"⟩
abbrev cX1_isWanted : ByteArray := prog_3_method_8_code
def yX1_isWanted : MethodName := ⟨RX1, "isWanted", "(I)Z"⟩
abbrev cX1_append : ByteArray := prog_3_method_9_code
def yX1_append : MethodName := ⟨RX1, "append", "(I)V"⟩
abbrev cX1_clear : ByteArray := prog_3_method_10_code
def yX1_clear : MethodName := ⟨RX1, "clear", "()V"⟩
abbrev cX1_understand : ByteArray := prog_3_method_11_code
def yX1_understand : MethodName := ⟨RX1, "understand", "()V"⟩
abbrev cX1_understandGoods : ByteArray := prog_3_method_12_code
def yX1_understandGoods : MethodName := ⟨RX1, "understandGoods", "()I"⟩
abbrev cX1_endOfFigures : ByteArray := prog_3_method_13_code
def yX1_endOfFigures : MethodName := ⟨RX1, "endOfFigures", "(I)I"⟩
abbrev cX1_numberBetween : ByteArray := prog_3_method_14_code
def yX1_numberBetween : MethodName := ⟨RX1, "numberBetween", "(II)I"⟩
abbrev cX1_byteAt : ByteArray := prog_3_method_15_code
def yX1_byteAt : MethodName := ⟨RX1, "byteAt", "(I)I"⟩
def RX2 : String := "ReadFromRight$Law"
def TX2 : u_T := fun k => match k with
  | _ => ("ReadFromRight$Law", "values", "[I", true)
def tyX2 : Nat → FieldType := fun k => match k with
  | _ => .array .int
abbrev wsX20 : List Cond := u_ws RX2 TX2 1
theorem nmX2 : ∀ a, a < 1 → ∀ b, b < 1 → a ≠ b → (TX2 a).2.1 ≠ (TX2 b).2.1 := by decide +kernel
theorem tyX2_ok : ∀ k, k < 1 → parseFieldDescriptor (TX2 k).2.2.1 = some (tyX2 k) := by decide +kernel
abbrev cX2_init : ByteArray := prog_4_method_1_code
def yX2_init : MethodName := ⟨RX2, "<init>", "()V"⟩
abbrev cX2_valueOf : ByteArray := prog_4_method_2_code
def yX2_valueOf : MethodName := ⟨RX2, "valueOf", "(I)I"⟩
abbrev cX2_change : ByteArray := prog_4_method_3_code
def yX2_change : MethodName := ⟨RX2, "change", "(II)V"⟩
abbrev cX2_paidFor : ByteArray := prog_4_method_4_code
def yX2_paidFor : MethodName := ⟨RX2, "paidFor", "(I)I"⟩
abbrev cX2_splitUp : ByteArray := prog_4_method_5_code
def yX2_splitUp : MethodName := ⟨RX2, "splitUp", "(I[I)I"⟩
def RX3 : String := "ReadFromRight$Months"
def TX3 : u_T := fun k => match k with
  | 0 => ("ReadFromRight$Months", "law", "LReadFromRight$Law;", true)
  | 1 => ("ReadFromRight$Months", "payments", "[I", true)
  | _ => ("ReadFromRight$Months", "best", "[I", true)
def tyX3 : Nat → FieldType := fun k => match k with
  | 0 => .object "ReadFromRight$Law"
  | 1 => .array .int
  | _ => .array .int
abbrev wsX30 : List Cond := u_ws RX3 TX3 3
theorem nmX3 : ∀ a, a < 3 → ∀ b, b < 3 → a ≠ b → (TX3 a).2.1 ≠ (TX3 b).2.1 := by decide +kernel
theorem tyX3_ok : ∀ k, k < 3 → parseFieldDescriptor (TX3 k).2.2.1 = some (tyX3 k) := by decide +kernel
abbrev cX3_init : ByteArray := prog_5_method_1_code
def yX3_init : MethodName := ⟨RX3, "<init>", "(LReadFromRight$Law;)V"⟩
abbrev cX3_part : ByteArray := prog_5_method_2_code
def yX3_part : MethodName := ⟨RX3, "part", "(IIZ)I"⟩
abbrev cX3_bestOfTwo : ByteArray := prog_5_method_3_code
def yX3_bestOfTwo : MethodName := ⟨RX3, "bestOfTwo", "(IZ)I"⟩
def RX4 : String := "ReadFromRight$Partners"
def TX4 : u_T := fun k => match k with
  | 0 => ("ReadFromRight$Partners", "law", "LReadFromRight$Law;", true)
  | 1 => ("ReadFromRight$Partners", "goods", "LReadFromRight$Goods;", true)
  | _ => ("ReadFromRight$Partners", "owners", "[I", true)
def tyX4 : Nat → FieldType := fun k => match k with
  | 0 => .object "ReadFromRight$Law"
  | 1 => .object "ReadFromRight$Goods"
  | _ => .array .int
abbrev wsX40 : List Cond := u_ws RX4 TX4 3
theorem nmX4 : ∀ a, a < 3 → ∀ b, b < 3 → a ≠ b → (TX4 a).2.1 ≠ (TX4 b).2.1 := by decide +kernel
theorem tyX4_ok : ∀ k, k < 3 → parseFieldDescriptor (TX4 k).2.2.1 = some (tyX4 k) := by decide +kernel
abbrev cX4_init : ByteArray := prog_6_method_1_code
def yX4_init : MethodName := ⟨RX4, "<init>", "(LReadFromRight$Law;LReadFromRight$Goods;)V"⟩
abbrev cX4_ownerOf : ByteArray := prog_6_method_2_code
def yX4_ownerOf : MethodName := ⟨RX4, "ownerOf", "(I)I"⟩
abbrev cX4_give : ByteArray := prog_6_method_3_code
def yX4_give : MethodName := ⟨RX4, "give", "(II)V"⟩
abbrev cX4_broughtInAllOrders : ByteArray := prog_6_method_4_code
def yX4_broughtInAllOrders : MethodName := ⟨RX4, "broughtInAllOrders", "(I)J"⟩
abbrev cX4_commonWithOrders : ByteArray := prog_6_method_5_code
def yX4_commonWithOrders : MethodName := ⟨RX4, "commonWithOrders", "(J)I"⟩
abbrev cX4_paidBySet : ByteArray := prog_6_method_6_code
def yX4_paidBySet : MethodName := ⟨RX4, "paidBySet", "(I)I"⟩
def RX5 : String := "ReadFromRight$Purse"
def TX5 : u_T := fun k => match k with
  | 0 => ("ReadFromRight$Purse", "law", "LReadFromRight$Law;", true)
  | 1 => ("ReadFromRight$Purse", "held", "[I", true)
  | _ => ("ReadFromRight$Purse", "made", "I", false)
def tyX5 : Nat → FieldType := fun k => match k with
  | 0 => .object "ReadFromRight$Law"
  | 1 => .array .int
  | _ => .int
abbrev wsX50 : List Cond := u_ws RX5 TX5 3
theorem nmX5 : ∀ a, a < 3 → ∀ b, b < 3 → a ≠ b → (TX5 a).2.1 ≠ (TX5 b).2.1 := by decide +kernel
theorem tyX5_ok : ∀ k, k < 3 → parseFieldDescriptor (TX5 k).2.2.1 = some (tyX5 k) := by decide +kernel
abbrev cX5_init : ByteArray := prog_7_method_1_code
def yX5_init : MethodName := ⟨RX5, "<init>", "(LReadFromRight$Law;)V"⟩
abbrev cX5_payOn : ByteArray := prog_7_method_2_code
def yX5_payOn : MethodName := ⟨RX5, "payOn", "(II)V"⟩
abbrev cX5_roundsPaid : ByteArray := prog_7_method_3_code
def yX5_roundsPaid : MethodName := ⟨RX5, "roundsPaid", "()I"⟩
abbrev cX5_contents : ByteArray := prog_7_method_4_code
def yX5_contents : MethodName := ⟨RX5, "contents", "()I"⟩
abbrev cX5_firstReturn : ByteArray := prog_7_method_5_code
def yX5_firstReturn : MethodName := ⟨RX5, "firstReturn", "()I"⟩
def RX6 : String := "ReadFromRight$Sheet"
def TX6 : u_T := fun k => match k with
  | 0 => ("ReadFromRight$Sheet", "items", "[I", true)
  | 1 => ("ReadFromRight$Sheet", "form", "I", false)
  | _ => ("ReadFromRight$Sheet", "length", "I", false)
def tyX6 : Nat → FieldType := fun k => match k with
  | 0 => .array .int
  | 1 => .int
  | _ => .int
abbrev wsX60 : List Cond := u_ws RX6 TX6 3
theorem nmX6 : ∀ a, a < 3 → ∀ b, b < 3 → a ≠ b → (TX6 a).2.1 ≠ (TX6 b).2.1 := by decide +kernel
theorem tyX6_ok : ∀ k, k < 3 → parseFieldDescriptor (TX6 k).2.2.1 = some (tyX6 k) := by decide +kernel
abbrev cX6_init : ByteArray := prog_8_method_1_code
def yX6_init : MethodName := ⟨RX6, "<init>", "()V"⟩
abbrev cX6_isLost : ByteArray := prog_8_method_2_code
def yX6_isLost : MethodName := ⟨RX6, "isLost", "()Z"⟩
abbrev cX6_isLike : ByteArray := prog_8_method_3_code
def yX6_isLike : MethodName := ⟨RX6, "isLike", "(LReadFromRight$Sheet;)Z"⟩
abbrev cX6_size : ByteArray := prog_8_method_4_code
def yX6_size : MethodName := ⟨RX6, "size", "()I"⟩
abbrev cX6_itemAt : ByteArray := prog_8_method_5_code
def yX6_itemAt : MethodName := ⟨RX6, "itemAt", "(I)I"⟩
abbrev cX6_renew : ByteArray := prog_8_method_6_code
def yX6_renew : MethodName := ⟨RX6, "renew", "(II)V"⟩
abbrev cX6_giveUp : ByteArray := prog_8_method_7_code
def yX6_giveUp : MethodName := ⟨RX6, "giveUp", "()V"⟩
abbrev cX6_put : ByteArray := prog_8_method_8_code
def yX6_put : MethodName := ⟨RX6, "put", "(II)V"⟩
abbrev cX6_findingAt : ByteArray := prog_8_method_9_code
def yX6_findingAt : MethodName := ⟨RX6, "findingAt", "(II)I"⟩
abbrev cX6_hasRun : ByteArray := prog_8_method_10_code
def yX6_hasRun : MethodName := ⟨RX6, "hasRun", "(II)Z"⟩
abbrev cX6_takeRun : ByteArray := prog_8_method_11_code
def yX6_takeRun : MethodName := ⟨RX6, "takeRun", "(LReadFromRight$Sheet;III)V"⟩
abbrev cX6_fits : ByteArray := prog_8_method_12_code
def yX6_fits : MethodName := ⟨RX6, "fits", "([II)Z"⟩
def RX7 : String := "ReadFromRight$Till"
def TX7 : u_T := fun k => match k with
  | 0 => ("ReadFromRight$Till", "law", "LReadFromRight$Law;", true)
  | 1 => ("ReadFromRight$Till", "goods", "LReadFromRight$Goods;", true)
  | 2 => ("ReadFromRight$Till", "sums", "[I", true)
  | 3 => ("ReadFromRight$Till", "payments", "[I", true)
  | 4 => ("ReadFromRight$Till", "leastParted", "[I", true)
  | 5 => ("ReadFromRight$Till", "mostParted", "[I", true)
  | 6 => ("ReadFromRight$Till", "knowsBills", "Z", false)
  | 7 => ("ReadFromRight$Till", "knowsBought", "Z", false)
  | 8 => ("ReadFromRight$Till", "least", "I", false)
  | 9 => ("ReadFromRight$Till", "fewest", "I", false)
  | 10 => ("ReadFromRight$Till", "bitsOfLeast", "I", false)
  | _ => ("ReadFromRight$Till", "most", "I", false)
def tyX7 : Nat → FieldType := fun k => match k with
  | 0 => .object "ReadFromRight$Law"
  | 1 => .object "ReadFromRight$Goods"
  | 2 => .array .int
  | 3 => .array .int
  | 4 => .array .int
  | 5 => .array .int
  | 6 => .boolean
  | 7 => .boolean
  | 8 => .int
  | 9 => .int
  | 10 => .int
  | _ => .int
abbrev wsX70 : List Cond := u_ws RX7 TX7 12
theorem nmX7 : ∀ a, a < 12 → ∀ b, b < 12 → a ≠ b → (TX7 a).2.1 ≠ (TX7 b).2.1 := by decide +kernel
theorem tyX7_ok : ∀ k, k < 12 → parseFieldDescriptor (TX7 k).2.2.1 = some (tyX7 k) := by decide +kernel
abbrev cX7_init : ByteArray := prog_9_method_1_code
def yX7_init : MethodName := ⟨RX7, "<init>", "(LReadFromRight$Law;LReadFromRight$Goods;)V"⟩
abbrev cX7_forget : ByteArray := prog_9_method_2_code
def yX7_forget : MethodName := ⟨RX7, "forget", "()V"⟩
abbrev cX7_sumOf : ByteArray := prog_9_method_3_code
def yX7_sumOf : MethodName := ⟨RX7, "sumOf", "(I)I"⟩
abbrev cX7_paidOf : ByteArray := prog_9_method_4_code
def yX7_paidOf : MethodName := ⟨RX7, "paidOf", "(I)I"⟩
abbrev cX7_gainOf : ByteArray := prog_9_method_5_code
def yX7_gainOf : MethodName := ⟨RX7, "gainOf", "(I)I"⟩
abbrev cX7_leastPaid : ByteArray := prog_9_method_6_code
def yX7_leastPaid : MethodName := ⟨RX7, "leastPaid", "()I"⟩
abbrev cX7_leastBills : ByteArray := prog_9_method_7_code
def yX7_leastBills : MethodName := ⟨RX7, "leastBills", "()I"⟩
abbrev cX7_leastBits : ByteArray := prog_9_method_8_code
def yX7_leastBits : MethodName := ⟨RX7, "leastBits", "()I"⟩
abbrev cX7_mostPaid : ByteArray := prog_9_method_9_code
def yX7_mostPaid : MethodName := ⟨RX7, "mostPaid", "()I"⟩
abbrev cX7_greatestGain : ByteArray := prog_9_method_10_code
def yX7_greatestGain : MethodName := ⟨RX7, "greatestGain", "(I)I"⟩
abbrev cX7_leastRaise : ByteArray := prog_9_method_11_code
def yX7_leastRaise : MethodName := ⟨RX7, "leastRaise", "(II)I"⟩
abbrev cX7_isProof : ByteArray := prog_9_method_12_code
def yX7_isProof : MethodName := ⟨RX7, "isProof", "(IIII)Z"⟩
abbrev cX7_reckonBills : ByteArray := prog_9_method_13_code
def yX7_reckonBills : MethodName := ⟨RX7, "reckonBills", "()V"⟩
abbrev cX7_reckonBought : ByteArray := prog_9_method_14_code
def yX7_reckonBought : MethodName := ⟨RX7, "reckonBought", "()V"⟩
abbrev cX7_takeBest : ByteArray := prog_9_method_15_code
def yX7_takeBest : MethodName := ⟨RX7, "takeBest", "(I)V"⟩
abbrev cX7_partOnceMore : ByteArray := prog_9_method_16_code
def yX7_partOnceMore : MethodName := ⟨RX7, "partOnceMore", "(I)V"⟩
abbrev cX7_partSet : ByteArray := prog_9_method_17_code
def yX7_partSet : MethodName := ⟨RX7, "partSet", "(II)V"⟩
def RX8 : String := "ReadFromRight$Turns"
def TX8 : u_T := fun k => match k with
  | 0 => ("ReadFromRight$Turns", "law", "LReadFromRight$Law;", true)
  | 1 => ("ReadFromRight$Turns", "ofFirst", "[I", true)
  | _ => ("ReadFromRight$Turns", "ofOther", "[I", true)
def tyX8 : Nat → FieldType := fun k => match k with
  | 0 => .object "ReadFromRight$Law"
  | 1 => .array .int
  | _ => .array .int
abbrev wsX80 : List Cond := u_ws RX8 TX8 3
theorem nmX8 : ∀ a, a < 3 → ∀ b, b < 3 → a ≠ b → (TX8 a).2.1 ≠ (TX8 b).2.1 := by decide +kernel
theorem tyX8_ok : ∀ k, k < 3 → parseFieldDescriptor (TX8 k).2.2.1 = some (tyX8 k) := by decide +kernel
abbrev cX8_init : ByteArray := prog_10_method_1_code
def yX8_init : MethodName := ⟨RX8, "<init>", "(LReadFromRight$Law;)V"⟩
abbrev cX8_playDownTo : ByteArray := prog_10_method_2_code
def yX8_playDownTo : MethodName := ⟨RX8, "playDownTo", "(III)V"⟩
abbrev cX8_outcomeFrom : ByteArray := prog_10_method_3_code
def yX8_outcomeFrom : MethodName := ⟨RX8, "outcomeFrom", "(I)I"⟩
abbrev cX8_firstAmount : ByteArray := prog_10_method_4_code
def yX8_firstAmount : MethodName := ⟨RX8, "firstAmount", "(II)I"⟩
abbrev cX8_bestAmount : ByteArray := prog_10_method_5_code
def yX8_bestAmount : MethodName := ⟨RX8, "bestAmount", "([IIIZ)I"⟩
def RX9 : String := "ReadFromRight"
def TX9 : u_T := fun k => match k with
  | 0 => ("ReadFromRight", "law", "LReadFromRight$Law;", true)
  | 1 => ("ReadFromRight", "goods", "LReadFromRight$Goods;", true)
  | 2 => ("ReadFromRight", "till", "LReadFromRight$Till;", true)
  | 3 => ("ReadFromRight", "partners", "LReadFromRight$Partners;", true)
  | 4 => ("ReadFromRight", "purses", "LReadFromRight$Purse;", true)
  | 5 => ("ReadFromRight", "figureCount", "LReadFromRight$FigureCount;", true)
  | 6 => ("ReadFromRight", "months", "LReadFromRight$Months;", true)
  | 7 => ("ReadFromRight", "turns", "LReadFromRight$Turns;", true)
  | 8 => ("ReadFromRight", "sheets", "[LReadFromRight$Sheet;", true)
  | 9 => ("ReadFromRight", "row", "[I", true)
  | _ => ("ReadFromRight", "latestFinding", "I", false)
def tyX9 : Nat → FieldType := fun k => match k with
  | 0 => .object "ReadFromRight$Law"
  | 1 => .object "ReadFromRight$Goods"
  | 2 => .object "ReadFromRight$Till"
  | 3 => .object "ReadFromRight$Partners"
  | 4 => .object "ReadFromRight$Purse"
  | 5 => .object "ReadFromRight$FigureCount"
  | 6 => .object "ReadFromRight$Months"
  | 7 => .object "ReadFromRight$Turns"
  | 8 => .array (.object "ReadFromRight$Sheet")
  | 9 => .array .int
  | _ => .int
abbrev wsX90 : List Cond := u_ws RX9 TX9 11
theorem nmX9 : ∀ a, a < 11 → ∀ b, b < 11 → a ≠ b → (TX9 a).2.1 ≠ (TX9 b).2.1 := by decide +kernel
theorem tyX9_ok : ∀ k, k < 11 → parseFieldDescriptor (TX9 k).2.2.1 = some (tyX9 k) := by decide +kernel
abbrev cX9_init : ByteArray := prog_1_method_1_code
def yX9_init : MethodName := ⟨RX9, "<init>", "()V"⟩
abbrev cX9_type : ByteArray := prog_1_method_2_code
def yX9_type : MethodName := ⟨RX9, "type", "(I)I"⟩
abbrev cX9_wipe : ByteArray := prog_1_method_3_code
def yX9_wipe : MethodName := ⟨RX9, "wipe", "()I"⟩
abbrev cX9_fault : ByteArray := prog_1_method_4_code
def yX9_fault : MethodName := ⟨RX9, "fault", "()I"⟩
abbrev cX9_good : ByteArray := prog_1_method_5_code
def yX9_good : MethodName := ⟨RX9, "good", "(II)I"⟩
abbrev cX9_set : ByteArray := prog_1_method_6_code
def yX9_set : MethodName := ⟨RX9, "set", "(II)I"⟩
abbrev cX9_partner : ByteArray := prog_1_method_7_code
def yX9_partner : MethodName := ⟨RX9, "partner", "(II)I"⟩
abbrev cX9_read : ByteArray := prog_1_method_8_code
def yX9_read : MethodName := ⟨RX9, "read", "(I)I"⟩
abbrev cX9_paid : ByteArray := prog_1_method_9_code
def yX9_paid : MethodName := ⟨RX9, "paid", "(I)I"⟩
abbrev cX9_bill : ByteArray := prog_1_method_10_code
def yX9_bill : MethodName := ⟨RX9, "bill", "(II)I"⟩
abbrev cX9_bought : ByteArray := prog_1_method_11_code
def yX9_bought : MethodName := ⟨RX9, "bought", "(I)I"⟩
abbrev cX9_added : ByteArray := prog_1_method_12_code
def yX9_added : MethodName := ⟨RX9, "added", "(I)I"⟩
abbrev cX9_proof : ByteArray := prog_1_method_13_code
def yX9_proof : MethodName := ⟨RX9, "proof", "(II)I"⟩
abbrev cX9_raised : ByteArray := prog_1_method_14_code
def yX9_raised : MethodName := ⟨RX9, "raised", "(II)I"⟩
abbrev cX9_rounds : ByteArray := prog_1_method_15_code
def yX9_rounds : MethodName := ⟨RX9, "rounds", "(III)I"⟩
abbrev cX9_figures : ByteArray := prog_1_method_16_code
def yX9_figures : MethodName := ⟨RX9, "figures", "(II)I"⟩
abbrev cX9_rent : ByteArray := prog_1_method_17_code
def yX9_rent : MethodName := ⟨RX9, "rent", "(III)I"⟩
abbrev cX9_share : ByteArray := prog_1_method_18_code
def yX9_share : MethodName := ⟨RX9, "share", "(II)J"⟩
abbrev cX9_smudged : ByteArray := prog_1_method_19_code
def yX9_smudged : MethodName := ⟨RX9, "smudged", "(II)I"⟩
abbrev cX9_game : ByteArray := prog_1_method_20_code
def yX9_game : MethodName := ⟨RX9, "game", "(IIII)I"⟩
abbrev cX9_sheet : ByteArray := prog_1_method_21_code
def yX9_sheet : MethodName := ⟨RX9, "sheet", "(III)I"⟩
abbrev cX9_lose : ByteArray := prog_1_method_22_code
def yX9_lose : MethodName := ⟨RX9, "lose", "(I)I"⟩
abbrev cX9_lay : ByteArray := prog_1_method_23_code
def yX9_lay : MethodName := ⟨RX9, "lay", "(IIII)I"⟩
abbrev cX9_get : ByteArray := prog_1_method_24_code
def yX9_get : MethodName := ⟨RX9, "get", "(III)I"⟩
abbrev cX9_copy : ByteArray := prog_1_method_25_code
def yX9_copy : MethodName := ⟨RX9, "copy", "(IIIII)I"⟩
abbrev cX9_write : ByteArray := prog_1_method_26_code
def yX9_write : MethodName := ⟨RX9, "write", "(II)I"⟩
abbrev cX9_count : ByteArray := prog_1_method_27_code
def yX9_count : MethodName := ⟨RX9, "count", "(I)I"⟩
abbrev cX9_digest : ByteArray := prog_1_method_28_code
def yX9_digest : MethodName := ⟨RX9, "digest", "()J"⟩
abbrev cX9_goodsInto : ByteArray := prog_1_method_29_code
def yX9_goodsInto : MethodName := ⟨RX9, "goodsInto", "(J)J"⟩
abbrev cX9_figuresInto : ByteArray := prog_1_method_30_code
def yX9_figuresInto : MethodName := ⟨RX9, "figuresInto", "(J)J"⟩
abbrev cX9_finding : ByteArray := prog_1_method_31_code
def yX9_finding : MethodName := ⟨RX9, "finding", "(I)I"⟩
abbrev cX9_isGood : ByteArray := prog_1_method_32_code
def yX9_isGood : MethodName := ⟨RX9, "isGood", "(I)Z"⟩
abbrev cX9_isPartner : ByteArray := prog_1_method_33_code
def yX9_isPartner : MethodName := ⟨RX9, "isPartner", "(I)Z"⟩
abbrev cX9_isNumber : ByteArray := prog_1_method_34_code
def yX9_isNumber : MethodName := ⟨RX9, "isNumber", "(I)Z"⟩
abbrev cX9_isSheet : ByteArray := prog_1_method_35_code
def yX9_isSheet : MethodName := ⟨RX9, "isSheet", "(I)Z"⟩
abbrev cX9_isForm : ByteArray := prog_1_method_36_code
def yX9_isForm : MethodName := ⟨RX9, "isForm", "(I)Z"⟩
abbrev cX9_within : ByteArray := prog_1_method_37_code
def yX9_within : MethodName := ⟨RX9, "within", "(III)Z"⟩
def RX10 : String := "ReadFromRightModel"
def TX10 : u_T := fun k => match k with
  | 0 => ("ReadFromRightModel", "forms", "[I", true)
  | 1 => ("ReadFromRightModel", "sizes", "[I", true)
  | 2 => ("ReadFromRightModel", "items", "[I", true)
  | 3 => ("ReadFromRightModel", "moved", "[I", true)
  | 4 => ("ReadFromRightModel", "latest", "I", false)
  | 5 => ("ReadFromRightModel", "text", "[I", true)
  | 6 => ("ReadFromRightModel", "typed", "I", false)
  | 7 => ("ReadFromRightModel", "at", "I", false)
  | 8 => ("ReadFromRightModel", "goods", "I", false)
  | 9 => ("ReadFromRightModel", "prices", "[I", true)
  | 10 => ("ReadFromRightModel", "wanted", "I", false)
  | 11 => ("ReadFromRightModel", "partners", "[I", true)
  | 12 => ("ReadFromRightModel", "settings", "[I", true)
  | 13 => ("ReadFromRightModel", "least", "[I", true)
  | 14 => ("ReadFromRightModel", "most", "[I", true)
  | 15 => ("ReadFromRightModel", "costs", "[I", true)
  | 16 => ("ReadFromRightModel", "purses", "[I", true)
  | 17 => ("ReadFromRightModel", "parted", "[I", true)
  | 18 => ("ReadFromRightModel", "nextParted", "[I", true)
  | _ => ("ReadFromRightModel", "ends", "[I", true)
def tyX10 : Nat → FieldType := fun k => match k with
  | 0 => .array .int
  | 1 => .array .int
  | 2 => .array .int
  | 3 => .array .int
  | 4 => .int
  | 5 => .array .int
  | 6 => .int
  | 7 => .int
  | 8 => .int
  | 9 => .array .int
  | 10 => .int
  | 11 => .array .int
  | 12 => .array .int
  | 13 => .array .int
  | 14 => .array .int
  | 15 => .array .int
  | 16 => .array .int
  | 17 => .array .int
  | 18 => .array .int
  | _ => .array .int
abbrev wsX100 : List Cond := u_ws RX10 TX10 20
theorem nmX10 : ∀ a, a < 20 → ∀ b, b < 20 → a ≠ b → (TX10 a).2.1 ≠ (TX10 b).2.1 := by decide +kernel
theorem tyX10_ok : ∀ k, k < 20 → parseFieldDescriptor (TX10 k).2.2.1 = some (tyX10 k) := by decide +kernel
abbrev cX10_init : ByteArray := prog_12_method_1_code
def yX10_init : MethodName := ⟨RX10, "<init>", "()V"⟩
abbrev cX10_in : ByteArray := prog_12_method_3_code
def yX10_in : MethodName := ⟨RX10, "in", "(JJJ)Z"⟩
abbrev cX10_no : ByteArray := prog_12_method_4_code
def yX10_no : MethodName := ⟨RX10, "no", "(I)J"⟩
abbrev cX10_isTwo : ByteArray := prog_12_method_5_code
def yX10_isTwo : MethodName := ⟨RX10, "isTwo", "(I)Z"⟩
abbrev cX10_isIn : ByteArray := prog_12_method_6_code
def yX10_isIn : MethodName := ⟨RX10, "isIn", "(II)Z"⟩
abbrev cX10_ones : ByteArray := prog_12_method_7_code
def yX10_ones : MethodName := ⟨RX10, "ones", "(I)I"⟩
abbrev cX10_met : ByteArray := prog_12_method_8_code
def yX10_met : MethodName := ⟨RX10, "met", "(I)I"⟩
abbrev cX10_isSheet : ByteArray := prog_12_method_9_code
def yX10_isSheet : MethodName := ⟨RX10, "isSheet", "(I)Z"⟩
abbrev cX10_sheet : ByteArray := prog_12_method_10_code
def yX10_sheet : MethodName := ⟨RX10, "sheet", "(III)I"⟩
abbrev cX10_lose : ByteArray := prog_12_method_11_code
def yX10_lose : MethodName := ⟨RX10, "lose", "(I)I"⟩
abbrev cX10_lacks : ByteArray := prog_12_method_12_code
def yX10_lacks : MethodName := ⟨RX10, "lacks", "(III)I"⟩
abbrev cX10_cut : ByteArray := prog_12_method_13_code
def yX10_cut : MethodName := ⟨RX10, "cut", "(II)I"⟩
abbrev cX10_lay : ByteArray := prog_12_method_14_code
def yX10_lay : MethodName := ⟨RX10, "lay", "(IIII)I"⟩
abbrev cX10_get : ByteArray := prog_12_method_15_code
def yX10_get : MethodName := ⟨RX10, "get", "(III)I"⟩
abbrev cX10_copy : ByteArray := prog_12_method_16_code
def yX10_copy : MethodName := ⟨RX10, "copy", "(IIIII)I"⟩
abbrev cX10_type : ByteArray := prog_12_method_17_code
def yX10_type : MethodName := ⟨RX10, "type", "(I)I"⟩
abbrev cX10_wipe : ByteArray := prog_12_method_18_code
def yX10_wipe : MethodName := ⟨RX10, "wipe", "()I"⟩
abbrev cX10_here : ByteArray := prog_12_method_19_code
def yX10_here : MethodName := ⟨RX10, "here", "()I"⟩
abbrev cX10_none : ByteArray := prog_12_method_20_code
def yX10_none : MethodName := ⟨RX10, "none", "()I"⟩
abbrev cX10_readsPart : ByteArray := prog_12_method_21_code
def yX10_readsPart : MethodName := ⟨RX10, "readsPart", "()Z"⟩
abbrev cX10_reads : ByteArray := prog_12_method_22_code
def yX10_reads : MethodName := ⟨RX10, "reads", "()I"⟩
abbrev cX10_fault : ByteArray := prog_12_method_23_code
def yX10_fault : MethodName := ⟨RX10, "fault", "()I"⟩
abbrev cX10_isGood : ByteArray := prog_12_method_24_code
def yX10_isGood : MethodName := ⟨RX10, "isGood", "(I)Z"⟩
abbrev cX10_goodOf : ByteArray := prog_12_method_25_code
def yX10_goodOf : MethodName := ⟨RX10, "goodOf", "(II)I"⟩
abbrev cX10_good : ByteArray := prog_12_method_26_code
def yX10_good : MethodName := ⟨RX10, "good", "(II)I"⟩
abbrev cX10_set : ByteArray := prog_12_method_27_code
def yX10_set : MethodName := ⟨RX10, "set", "(II)I"⟩
abbrev cX10_isPartner : ByteArray := prog_12_method_28_code
def yX10_isPartner : MethodName := ⟨RX10, "isPartner", "(I)Z"⟩
abbrev cX10_partner : ByteArray := prog_12_method_29_code
def yX10_partner : MethodName := ⟨RX10, "partner", "(II)I"⟩
abbrev cX10_read : ByteArray := prog_12_method_30_code
def yX10_read : MethodName := ⟨RX10, "read", "(I)I"⟩
abbrev cX10_paidFor : ByteArray := prog_12_method_31_code
def yX10_paidFor : MethodName := ⟨RX10, "paidFor", "(I)I"⟩
abbrev cX10_isNumber : ByteArray := prog_12_method_32_code
def yX10_isNumber : MethodName := ⟨RX10, "isNumber", "(I)Z"⟩
abbrev cX10_paid : ByteArray := prog_12_method_33_code
def yX10_paid : MethodName := ⟨RX10, "paid", "(I)I"⟩
abbrev cX10_sumOf : ByteArray := prog_12_method_34_code
def yX10_sumOf : MethodName := ⟨RX10, "sumOf", "(I)I"⟩
abbrev cX10_whole : ByteArray := prog_12_method_35_code
def yX10_whole : MethodName := ⟨RX10, "whole", "()I"⟩
abbrev cX10_bill : ByteArray := prog_12_method_36_code
def yX10_bill : MethodName := ⟨RX10, "bill", "(II)I"⟩
abbrev cX10_findBills : ByteArray := prog_12_method_37_code
def yX10_findBills : MethodName := ⟨RX10, "findBills", "()V"⟩
abbrev cX10_boughtOf : ByteArray := prog_12_method_38_code
def yX10_boughtOf : MethodName := ⟨RX10, "boughtOf", "(I)I"⟩
abbrev cX10_bought : ByteArray := prog_12_method_39_code
def yX10_bought : MethodName := ⟨RX10, "bought", "(I)I"⟩
abbrev cX10_addedTo : ByteArray := prog_12_method_40_code
def yX10_addedTo : MethodName := ⟨RX10, "addedTo", "(I)I"⟩
abbrev cX10_added : ByteArray := prog_12_method_41_code
def yX10_added : MethodName := ⟨RX10, "added", "(I)I"⟩
abbrev cX10_gainBy : ByteArray := prog_12_method_42_code
def yX10_gainBy : MethodName := ⟨RX10, "gainBy", "(I)I"⟩
abbrev cX10_proofOf : ByteArray := prog_12_method_43_code
def yX10_proofOf : MethodName := ⟨RX10, "proofOf", "(II)I"⟩
abbrev cX10_proof : ByteArray := prog_12_method_44_code
def yX10_proof : MethodName := ⟨RX10, "proof", "(II)I"⟩
abbrev cX10_isProof : ByteArray := prog_12_method_45_code
def yX10_isProof : MethodName := ⟨RX10, "isProof", "(I)Z"⟩
abbrev cX10_raisedOf : ByteArray := prog_12_method_46_code
def yX10_raisedOf : MethodName := ⟨RX10, "raisedOf", "(II)I"⟩
abbrev cX10_raised : ByteArray := prog_12_method_47_code
def yX10_raised : MethodName := ⟨RX10, "raised", "(II)I"⟩
abbrev cX10_roundsOf : ByteArray := prog_12_method_48_code
def yX10_roundsOf : MethodName := ⟨RX10, "roundsOf", "(III)I"⟩
abbrev cX10_rounds : ByteArray := prog_12_method_49_code
def yX10_rounds : MethodName := ⟨RX10, "rounds", "(III)I"⟩
abbrev cX10_figuresOf : ByteArray := prog_12_method_50_code
def yX10_figuresOf : MethodName := ⟨RX10, "figuresOf", "(II)I"⟩
abbrev cX10_figures : ByteArray := prog_12_method_51_code
def yX10_figures : MethodName := ⟨RX10, "figures", "(II)I"⟩
abbrev cX10_rentOf : ByteArray := prog_12_method_52_code
def yX10_rentOf : MethodName := ⟨RX10, "rentOf", "(III)I"⟩
abbrev cX10_rent : ByteArray := prog_12_method_53_code
def yX10_rent : MethodName := ⟨RX10, "rent", "(III)I"⟩
abbrev cX10_worth : ByteArray := prog_12_method_54_code
def yX10_worth : MethodName := ⟨RX10, "worth", "(I)I"⟩
abbrev cX10_part : ByteArray := prog_12_method_55_code
def yX10_part : MethodName := ⟨RX10, "part", "(JJI)J"⟩
abbrev cX10_shareOf : ByteArray := prog_12_method_56_code
def yX10_shareOf : MethodName := ⟨RX10, "shareOf", "(II)J"⟩
abbrev cX10_share : ByteArray := prog_12_method_57_code
def yX10_share : MethodName := ⟨RX10, "share", "(II)J"⟩
abbrev cX10_fits : ByteArray := prog_12_method_58_code
def yX10_fits : MethodName := ⟨RX10, "fits", "(II)Z"⟩
abbrev cX10_smudged : ByteArray := prog_12_method_59_code
def yX10_smudged : MethodName := ⟨RX10, "smudged", "(II)I"⟩
abbrev cX10_value : ByteArray := prog_12_method_60_code
def yX10_value : MethodName := ⟨RX10, "value", "(III)I"⟩
abbrev cX10_gameOf : ByteArray := prog_12_method_61_code
def yX10_gameOf : MethodName := ⟨RX10, "gameOf", "(IIII)I"⟩
abbrev cX10_game : ByteArray := prog_12_method_62_code
def yX10_game : MethodName := ⟨RX10, "game", "(IIII)I"⟩
abbrev cX10_write : ByteArray := prog_12_method_63_code
def yX10_write : MethodName := ⟨RX10, "write", "(II)I"⟩
abbrev cX10_count : ByteArray := prog_12_method_64_code
def yX10_count : MethodName := ⟨RX10, "count", "(I)I"⟩
abbrev cX10_digest : ByteArray := prog_12_method_65_code
def yX10_digest : MethodName := ⟨RX10, "digest", "()J"⟩
def RJ6 : String := "java/lang/Integer"
def TJ6 : u_T := fun k => match k with
  | _ => ("", "", "", false)
def tyJ6 : Nat → FieldType := fun k => match k with
  | _ => .int
abbrev wsJ60 : List Cond := u_ws RJ6 TJ6 0
theorem nmJ6 : ∀ a, a < 0 → ∀ b, b < 0 → a ≠ b → (TJ6 a).2.1 ≠ (TJ6 b).2.1 := by decide +kernel
theorem tyJ6_ok : ∀ k, k < 0 → parseFieldDescriptor (TJ6 k).2.2.1 = some (tyJ6 k) := by decide +kernel
abbrev cJ6_bitCount_0f7a4 : ByteArray := prog_13_method_49_code
def yJ6_bitCount_0f7a4 : MethodName := ⟨RJ6, "bitCount", "(I)I"⟩
def RJ9 : String := "java/lang/Math"
def TJ9 : u_T := fun k => match k with
  | _ => ("", "", "", false)
def tyJ9 : Nat → FieldType := fun k => match k with
  | _ => .int
abbrev wsJ90 : List Cond := u_ws RJ9 TJ9 0
theorem nmJ9 : ∀ a, a < 0 → ∀ b, b < 0 → a ≠ b → (TJ9 a).2.1 ≠ (TJ9 b).2.1 := by decide +kernel
theorem tyJ9_ok : ∀ k, k < 0 → parseFieldDescriptor (TJ9 k).2.2.1 = some (tyJ9 k) := by decide +kernel
abbrev cJ9_abs_0f7a4 : ByteArray := prog_14_method_59_code
def yJ9_abs_0f7a4 : MethodName := ⟨RJ9, "abs", "(I)I"⟩
abbrev cJ9_max_7cf53 : ByteArray := prog_14_method_65_code
def yJ9_max_7cf53 : MethodName := ⟨RJ9, "max", "(II)I"⟩
abbrev cJ9_min_7cf53 : ByteArray := prog_14_method_69_code
def yJ9_min_7cf53 : MethodName := ⟨RJ9, "min", "(II)I"⟩
def RJ10 : String := "java/lang/System"
def TJ10 : u_T := fun k => match k with
  | _ => ("", "", "", false)
def tyJ10 : Nat → FieldType := fun k => match k with
  | _ => .int
abbrev wsJ100 : List Cond := u_ws RJ10 TJ10 0
theorem nmJ10 : ∀ a, a < 0 → ∀ b, b < 0 → a ≠ b → (TJ10 a).2.1 ≠ (TJ10 b).2.1 := by decide +kernel
theorem tyJ10_ok : ∀ k, k < 0 → parseFieldDescriptor (TJ10 k).2.2.1 = some (tyJ10 k) := by decide +kernel
def RJ7 : String := "java/util/Arrays"
def TJ7 : u_T := fun k => match k with
  | _ => ("", "", "", false)
def tyJ7 : Nat → FieldType := fun k => match k with
  | _ => .int
abbrev wsJ70 : List Cond := u_ws RJ7 TJ7 0
theorem nmJ7 : ∀ a, a < 0 → ∀ b, b < 0 → a ≠ b → (TJ7 a).2.1 ≠ (TJ7 b).2.1 := by decide +kernel
theorem tyJ7_ok : ∀ k, k < 0 → parseFieldDescriptor (TJ7 k).2.2.1 = some (tyJ7 k) := by decide +kernel
abbrev cJ7_fill_53178 : ByteArray := prog_16_method_103_code
def yJ7_fill_53178 : MethodName := ⟨RJ7, "fill", "([II)V"⟩
def RL : String := "ReadFromRightLaw"
abbrev cL_law : ByteArray := code
def yL_law : MethodName := ⟨RL, "law", "([I)Z"⟩
end
section
abbrev pm_M : Type := Nat → Nat → Int32
abbrev pm_K : Type := Nat ⊕ (List Nat ⊕ (Nat × List (Option Nat)))
abbrev pm_R : Type := Nat × Instr × Nat × Nat × Nat × Nat × Int32 × Int64
/-- a method: its name, bytes, locals, answer, frames and words of room, arguments (the receiver too), static or not, places of its words -/
abbrev pm_S : Type := MethodName × ByteArray × Nat × Option FieldType × Nat × Nat × Nat × Bool × Nat × Nat × Nat × Nat
abbrev classes : List vw_C := [(RX0, TX0, 4), (RX1, TX1, 6), (RX2, TX2, 1), (RX3, TX3, 3), (RX4, TX4, 3), (RX5, TX5, 3), (RX6, TX6, 3), (RX7, TX7, 12), (RX8, TX8, 3), (RX9, TX9, 11), (RX10, TX10, 20)]
def pm_statics : List (String × String × String × Nat) := [("ReadFromRight", "LAW_LEAST", "[I", 49), ("ReadFromRight", "LAW_MOST", "[I", 50), ("ReadFromRight$Partners", "ORDERS_BEHIND", "[I", 51)]
def pm_lay : List pm_K := [
  .inr (.inr (9, [some 1, some 3, some 6, some 11, some 13, some 15, some 17, some 20, some 23, some 32, none])),
  .inr (.inr (2, [some 2])),
  .inl 4,
  .inr (.inr (1, [some 4, some 5, none, none, none, none])),
  .inl 50,
  .inl 8,
  .inr (.inr (7, [some 1, some 3, some 7, some 8, some 9, some 10, none, none, none, none, none, none])),
  .inl 256,
  .inl 256,
  .inl 256,
  .inl 256,
  .inr (.inr (4, [some 1, some 3, some 12])),
  .inl 8,
  .inr (.inr (5, [some 1, some 14, none])),
  .inl 201,
  .inr (.inr (0, [some 1, some 16, none, none])),
  .inl 4,
  .inr (.inr (3, [some 1, some 18, some 19])),
  .inl 121,
  .inl 121,
  .inr (.inr (8, [some 1, some 21, some 22])),
  .inl 209,
  .inl 209,
  .inr (.inl [24, 26, 28, 30]),
  .inr (.inr (6, [some 25, none, none])),
  .inl 60,
  .inr (.inr (6, [some 27, none, none])),
  .inl 60,
  .inr (.inr (6, [some 29, none, none])),
  .inl 60,
  .inr (.inr (6, [some 31, none, none])),
  .inl 60,
  .inl 31,
  .inr (.inr (10, [some 34, some 35, some 36, some 37, none, some 38, none, none, none, some 39, none, some 40, some 41, some 42, some 43, some 44, some 45, some 46, some 47, some 48])),
  .inl 4,
  .inl 4,
  .inl 240,
  .inl 60,
  .inl 50,
  .inl 8,
  .inl 8,
  .inl 4,
  .inl 1280,
  .inl 1280,
  .inl 256,
  .inl 201,
  .inl 121,
  .inl 121,
  .inl 420]
def cd_X0_forget : List pm_R := [(0, .aload_n 0, 0, 0, 0, 0, 0, 0), (1, .iconst 0, 0, 0, 0, 0, 0, 0), (2, .putfield 15, 0, 2, 0, 188, 0, 0), (5, .return_, 0, 0, 0, 0, 0, 0)]
def cd_X0_answer : List pm_R := [(0, .aload_n 0, 0, 0, 0, 0, 0, 0), (1, .getfield 15, 0, 2, 0, 188, 0, 0), (4, .iload_n 1, 0, 0, 0, 0, 0, 0), (5, .if_icmp .eq 26, 31, 0, 0, 0, 0, 0), (8, .aload_n 0, 0, 0, 0, 0, 0, 0), (9, .iconst (-1), 0, 0, 0, 0, -1, 0), (10, .putfield 19, 0, 3, 0, 189, 0, 0), (13, .aload_n 0, 0, 0, 0, 0, 0, 0), (14, .getfield 9, 0, 1, 0, 187, 0, 0), (17, .iconst 0, 0, 0, 0, 0, 0, 0), (18, .invokestatic 26, 164, 2, 0, 566, 0, 0), (21, .aload_n 0, 0, 0, 0, 0, 0, 0), (22, .iload_n 1, 0, 0, 0, 0, 0, 0), (23, .invokevirtual 32, 2, 2, 0, 569, 0, 0), (26, .aload_n 0, 0, 0, 0, 0, 0, 0), (27, .iload_n 1, 0, 0, 0, 0, 0, 0), (28, .putfield 15, 0, 2, 0, 188, 0, 0), (31, .aload_n 0, 0, 0, 0, 0, 0, 0), (32, .getfield 9, 0, 1, 0, 187, 0, 0), (35, .iload_n 2, 0, 0, 0, 0, 0, 0), (36, .iaload, 0, 0, 0, 0, 0, 0), (37, .ireturn, 0, 0, 0, 0, 0, 0)]
def cd_X0_countAll : List pm_R := [(0, .aload_n 0, 0, 0, 0, 0, 0, 0), (1, .getfield 22, 0, 0, 0, 186, 0, 0), (4, .iconst 0, 0, 0, 0, 0, 0, 0), (5, .invokevirtual 36, 18, 2, 2, 573, 0, 0), (8, .istore_n 2, 0, 0, 0, 0, 0, 0), (9, .iload_n 1, 0, 0, 0, 0, 0, 0), (10, .iconst 1, 0, 0, 0, 0, 1, 0), (11, .if_icmp .ne 23, 34, 0, 0, 0, 0, 0), (14, .iconst 1, 0, 0, 0, 0, 1, 0), (15, .istore_n 3, 0, 0, 0, 0, 0, 0), (16, .iload_n 3, 0, 0, 0, 0, 0, 0), (17, .iload_n 2, 0, 0, 0, 0, 0, 0), (18, .if_icmp .ge 15, 33, 0, 0, 0, 0, 0), (21, .aload_n 0, 0, 0, 0, 0, 0, 0), (22, .iload_n 3, 0, 0, 0, 0, 0, 0), (23, .iconst 1, 0, 0, 0, 0, 1, 0), (24, .invokevirtual 42, 3, 3, 0, 574, 0, 0), (27, .iinc 3 1, 0, 0, 0, 0, 1, 0), (30, .goto (-14), 16, 0, 0, 0, 0, 0), (33, .return_, 0, 0, 0, 0, 0, 0), (34, .iload_n 1, 0, 0, 0, 0, 0, 0), (35, .iconst 3, 0, 0, 0, 0, 3, 0), (36, .if_icmp .ne 7, 43, 0, 0, 0, 0, 0), (39, .iload_n 2, 0, 0, 0, 0, 0, 0), (40, .goto 4, 44, 0, 0, 0, 0, 0), (43, .iconst 1, 0, 0, 0, 0, 1, 0), (44, .istore_n 3, 0, 0, 0, 0, 0, 0), (45, .iload_n 3, 0, 0, 0, 0, 0, 0), (46, .iload_n 2, 0, 0, 0, 0, 0, 0), (47, .imul, 0, 0, 0, 0, 0, 0), (48, .istore 4, 0, 0, 0, 0, 0, 0), (50, .iconst 1, 0, 0, 0, 0, 1, 0), (51, .istore 5, 0, 0, 0, 0, 0, 0), (53, .iload 5, 0, 0, 0, 0, 0, 0), (55, .iload_n 2, 0, 0, 0, 0, 0, 0), (56, .if_icmp .ge 67, 123, 0, 0, 0, 0, 0), (59, .iconst 0, 0, 0, 0, 0, 0, 0), (60, .istore 6, 0, 0, 0, 0, 0, 0), (62, .iload 6, 0, 0, 0, 0, 0, 0), (64, .iload_n 3, 0, 0, 0, 0, 0, 0), (65, .if_icmp .ge 24, 89, 0, 0, 0, 0, 0), (68, .aload_n 0, 0, 0, 0, 0, 0, 0), (69, .iload 5, 0, 0, 0, 0, 0, 0), (71, .iload 4, 0, 0, 0, 0, 0, 0), (73, .imul, 0, 0, 0, 0, 0, 0), (74, .iload 6, 0, 0, 0, 0, 0, 0), (76, .iload_n 2, 0, 0, 0, 0, 0, 0), (77, .imul, 0, 0, 0, 0, 0, 0), (78, .iadd, 0, 0, 0, 0, 0, 0), (79, .iconst 1, 0, 0, 0, 0, 1, 0), (80, .invokevirtual 42, 3, 3, 0, 574, 0, 0), (83, .iinc 6 1, 0, 0, 0, 0, 1, 0), (86, .goto (-24), 62, 0, 0, 0, 0, 0), (89, .iconst 1, 0, 0, 0, 0, 1, 0), (90, .istore 6, 0, 0, 0, 0, 0, 0), (92, .iload 6, 0, 0, 0, 0, 0, 0), (94, .iload_n 2, 0, 0, 0, 0, 0, 0), (95, .if_icmp .ge 22, 117, 0, 0, 0, 0, 0), (98, .aload_n 0, 0, 0, 0, 0, 0, 0), (99, .iload 5, 0, 0, 0, 0, 0, 0), (101, .iload 4, 0, 0, 0, 0, 0, 0), (103, .imul, 0, 0, 0, 0, 0, 0), (104, .iload 6, 0, 0, 0, 0, 0, 0), (106, .iadd, 0, 0, 0, 0, 0, 0), (107, .iload_n 3, 0, 0, 0, 0, 0, 0), (108, .invokevirtual 42, 3, 3, 0, 574, 0, 0), (111, .iinc 6 1, 0, 0, 0, 0, 1, 0), (114, .goto (-22), 92, 0, 0, 0, 0, 0), (117, .iinc 5 1, 0, 0, 0, 0, 1, 0), (120, .goto (-67), 53, 0, 0, 0, 0, 0), (123, .return_, 0, 0, 0, 0, 0, 0)]
def cd_X0_take : List pm_R := [(0, .aload_n 0, 0, 0, 0, 0, 0, 0), (1, .getfield 22, 0, 0, 0, 186, 0, 0), (4, .iload_n 1, 0, 0, 0, 0, 0, 0), (5, .invokevirtual 46, 20, 2, 2, 578, 0, 0), (8, .istore_n 3, 0, 0, 0, 0, 0, 0), (9, .iload_n 3, 0, 0, 0, 0, 0, 0), (10, .iload_n 1, 0, 0, 0, 0, 0, 0), (11, .if_icmp .ne 7, 18, 0, 0, 0, 0, 0), (14, .iconst 0, 0, 0, 0, 0, 0, 0), (15, .goto 13, 28, 0, 0, 0, 0, 0), (18, .iload_n 3, 0, 0, 0, 0, 0, 0), (19, .iload_n 1, 0, 0, 0, 0, 0, 0), (20, .if_icmp .ge 7, 27, 0, 0, 0, 0, 0), (23, .iconst 1, 0, 0, 0, 0, 1, 0), (24, .goto 4, 28, 0, 0, 0, 0, 0), (27, .iconst 2, 0, 0, 0, 0, 2, 0), (28, .istore 4, 0, 0, 0, 0, 0, 0), (30, .aload_n 0, 0, 0, 0, 0, 0, 0), (31, .getfield 9, 0, 1, 0, 187, 0, 0), (34, .iload 4, 0, 0, 0, 0, 0, 0), (36, .dup2, 0, 0, 0, 0, 0, 0), (37, .iaload, 0, 0, 0, 0, 0, 0), (38, .iload_n 2, 0, 0, 0, 0, 0, 0), (39, .iadd, 0, 0, 0, 0, 0, 0), (40, .iastore, 0, 0, 0, 0, 0, 0), (41, .iload_n 3, 0, 0, 0, 0, 0, 0), (42, .iload_n 1, 0, 0, 0, 0, 0, 0), (43, .isub, 0, 0, 0, 0, 0, 0), (44, .invokestatic 49, 581, 1, 5, 579, 0, 0), (47, .istore 5, 0, 0, 0, 0, 0, 0), (49, .iload 5, 0, 0, 0, 0, 0, 0), (51, .aload_n 0, 0, 0, 0, 0, 0, 0), (52, .getfield 19, 0, 3, 0, 189, 0, 0), (55, .if_icmp .gt 22, 77, 0, 0, 0, 0, 0), (58, .iload 5, 0, 0, 0, 0, 0, 0), (60, .aload_n 0, 0, 0, 0, 0, 0, 0), (61, .getfield 19, 0, 3, 0, 189, 0, 0), (64, .if_icmp .ne 26, 90, 0, 0, 0, 0, 0), (67, .iload_n 1, 0, 0, 0, 0, 0, 0), (68, .aload_n 0, 0, 0, 0, 0, 0, 0), (69, .getfield 9, 0, 1, 0, 187, 0, 0), (72, .iconst 3, 0, 0, 0, 0, 3, 0), (73, .iaload, 0, 0, 0, 0, 0, 0), (74, .if_icmp .ge 16, 90, 0, 0, 0, 0, 0), (77, .aload_n 0, 0, 0, 0, 0, 0, 0), (78, .iload 5, 0, 0, 0, 0, 0, 0), (80, .putfield 19, 0, 3, 0, 189, 0, 0), (83, .aload_n 0, 0, 0, 0, 0, 0, 0), (84, .getfield 9, 0, 1, 0, 187, 0, 0), (87, .iconst 3, 0, 0, 0, 0, 3, 0), (88, .iload_n 1, 0, 0, 0, 0, 0, 0), (89, .iastore, 0, 0, 0, 0, 0, 0), (90, .return_, 0, 0, 0, 0, 0, 0)]
def cd_X1_length : List pm_R := [(0, .aload_n 0, 0, 0, 0, 0, 0, 0), (1, .getfield 18, 1, 2, 0, 88, 0, 0), (4, .ireturn, 0, 0, 0, 0, 0, 0)]
def cd_X1_size : List pm_R := [(0, .aload_n 0, 0, 0, 0, 0, 0, 0), (1, .getfield 22, 1, 3, 0, 89, 0, 0), (4, .ireturn, 0, 0, 0, 0, 0, 0)]
def cd_X1_allBits : List pm_R := [(0, .iconst 1, 0, 0, 0, 0, 1, 0), (1, .aload_n 0, 0, 0, 0, 0, 0, 0), (2, .getfield 22, 1, 3, 0, 89, 0, 0), (5, .ishl, 0, 0, 0, 0, 0, 0), (6, .iconst 1, 0, 0, 0, 0, 1, 0), (7, .isub, 0, 0, 0, 0, 0, 0), (8, .ireturn, 0, 0, 0, 0, 0, 0)]
def cd_X1_wantedBits : List pm_R := [(0, .aload_n 0, 0, 0, 0, 0, 0, 0), (1, .getfield 25, 1, 4, 0, 90, 0, 0), (4, .ireturn, 0, 0, 0, 0, 0, 0)]
def cd_X1_faultPlace : List pm_R := [(0, .aload_n 0, 0, 0, 0, 0, 0, 0), (1, .getfield 28, 1, 5, 0, 91, 0, 0), (4, .ireturn, 0, 0, 0, 0, 0, 0)]
def cd_X1_priceOf : List pm_R := [(0, .aload_n 0, 0, 0, 0, 0, 0, 0), (1, .getfield 15, 1, 1, 0, 87, 0, 0), (4, .iload_n 1, 0, 0, 0, 0, 0, 0), (5, .iaload, 0, 0, 0, 0, 0, 0), (6, .ireturn, 0, 0, 0, 0, 0, 0)]
def cd_X1_isWanted : List pm_R := [(0, .aload_n 0, 0, 0, 0, 0, 0, 0), (1, .getfield 25, 1, 4, 0, 90, 0, 0), (4, .iconst 1, 0, 0, 0, 0, 1, 0), (5, .iload_n 1, 0, 0, 0, 0, 0, 0), (6, .ishl, 0, 0, 0, 0, 0, 0), (7, .iand, 0, 0, 0, 0, 0, 0), (8, .ifCond .eq 7, 15, 0, 0, 0, 0, 0), (11, .iconst 1, 0, 0, 0, 0, 1, 0), (12, .goto 4, 16, 0, 0, 0, 0, 0), (15, .iconst 0, 0, 0, 0, 0, 0, 0), (16, .ireturn, 0, 0, 0, 0, 0, 0)]
def cd_X1_append : List pm_R := [(0, .aload_n 0, 0, 0, 0, 0, 0, 0), (1, .getfield 18, 1, 2, 0, 88, 0, 0), (4, .bipush 50, 0, 0, 0, 0, 50, 0), (6, .if_icmp .ge 23, 29, 0, 0, 0, 0, 0), (9, .aload_n 0, 0, 0, 0, 0, 0, 0), (10, .getfield 9, 1, 0, 0, 86, 0, 0), (13, .aload_n 0, 0, 0, 0, 0, 0, 0), (14, .getfield 18, 1, 2, 0, 88, 0, 0), (17, .iload_n 1, 0, 0, 0, 0, 0, 0), (18, .iastore, 0, 0, 0, 0, 0, 0), (19, .aload_n 0, 0, 0, 0, 0, 0, 0), (20, .dup, 0, 0, 0, 0, 0, 0), (21, .getfield 18, 1, 2, 0, 88, 0, 0), (24, .iconst 1, 0, 0, 0, 0, 1, 0), (25, .iadd, 0, 0, 0, 0, 0, 0), (26, .putfield 18, 1, 2, 0, 88, 0, 0), (29, .aload_n 0, 0, 0, 0, 0, 0, 0), (30, .invokevirtual 31, 13, 1, 1, 297, 0, 0), (33, .return_, 0, 0, 0, 0, 0, 0)]
def cd_X1_clear : List pm_R := [(0, .aload_n 0, 0, 0, 0, 0, 0, 0), (1, .iconst 0, 0, 0, 0, 0, 0, 0), (2, .putfield 18, 1, 2, 0, 88, 0, 0), (5, .aload_n 0, 0, 0, 0, 0, 0, 0), (6, .invokevirtual 31, 13, 1, 1, 297, 0, 0), (9, .return_, 0, 0, 0, 0, 0, 0)]
def cd_X1_understand : List pm_R := [(0, .aload_n 0, 0, 0, 0, 0, 0, 0), (1, .iconst 0, 0, 0, 0, 0, 0, 0), (2, .putfield 22, 1, 3, 0, 89, 0, 0), (5, .aload_n 0, 0, 0, 0, 0, 0, 0), (6, .iconst 0, 0, 0, 0, 0, 0, 0), (7, .putfield 25, 1, 4, 0, 90, 0, 0), (10, .aload_n 0, 0, 0, 0, 0, 0, 0), (11, .aload_n 0, 0, 0, 0, 0, 0, 0), (12, .getfield 18, 1, 2, 0, 88, 0, 0), (15, .ifCond .ne 7, 22, 0, 0, 0, 0, 0), (18, .iconst (-1), 0, 0, 0, 0, -1, 0), (19, .goto 7, 26, 0, 0, 0, 0, 0), (22, .aload_n 0, 0, 0, 0, 0, 0, 0), (23, .invokevirtual 34, 14, 1, 1, 301, 0, 0), (26, .putfield 28, 1, 5, 0, 91, 0, 0), (29, .aload_n 0, 0, 0, 0, 0, 0, 0), (30, .getfield 28, 1, 5, 0, 91, 0, 0), (33, .iconst (-1), 0, 0, 0, 0, -1, 0), (34, .if_icmp .eq 13, 47, 0, 0, 0, 0, 0), (37, .aload_n 0, 0, 0, 0, 0, 0, 0), (38, .iconst 0, 0, 0, 0, 0, 0, 0), (39, .putfield 22, 1, 3, 0, 89, 0, 0), (42, .aload_n 0, 0, 0, 0, 0, 0, 0), (43, .iconst 0, 0, 0, 0, 0, 0, 0), (44, .putfield 25, 1, 4, 0, 90, 0, 0), (47, .return_, 0, 0, 0, 0, 0, 0)]
def cd_X1_understandGoods : List pm_R := [(0, .iconst 0, 0, 0, 0, 0, 0, 0), (1, .istore_n 1, 0, 0, 0, 0, 0, 0), (2, .iconst 0, 0, 0, 0, 0, 0, 0), (3, .istore_n 2, 0, 0, 0, 0, 0, 0), (4, .iload_n 2, 0, 0, 0, 0, 0, 0), (5, .bipush 8, 0, 0, 0, 0, 8, 0), (7, .if_icmp .ge 123, 130, 0, 0, 0, 0, 0), (10, .aload_n 0, 0, 0, 0, 0, 0, 0), (11, .iload_n 1, 0, 0, 0, 0, 0, 0), (12, .invokevirtual 38, 15, 2, 1, 305, 0, 0), (15, .istore_n 3, 0, 0, 0, 0, 0, 0), (16, .aload_n 0, 0, 0, 0, 0, 0, 0), (17, .iload_n 1, 0, 0, 0, 0, 0, 0), (18, .iload_n 3, 0, 0, 0, 0, 0, 0), (19, .invokevirtual 42, 16, 3, 1, 313, 0, 0), (22, .istore 4, 0, 0, 0, 0, 0, 0), (24, .iload 4, 0, 0, 0, 0, 0, 0), (26, .ifCond .ne 5, 31, 0, 0, 0, 0, 0), (29, .iload_n 1, 0, 0, 0, 0, 0, 0), (30, .ireturn, 0, 0, 0, 0, 0, 0), (31, .aload_n 0, 0, 0, 0, 0, 0, 0), (32, .iload_n 3, 0, 0, 0, 0, 0, 0), (33, .invokevirtual 46, 17, 2, 1, 309, 0, 0), (36, .istore 5, 0, 0, 0, 0, 0, 0), (38, .iload 5, 0, 0, 0, 0, 0, 0), (40, .bipush 119, 0, 0, 0, 0, 119, 0), (42, .if_icmp .eq 12, 54, 0, 0, 0, 0, 0), (45, .iload 5, 0, 0, 0, 0, 0, 0), (47, .bipush 116, 0, 0, 0, 0, 116, 0), (49, .if_icmp .eq 5, 54, 0, 0, 0, 0, 0), (52, .iload_n 3, 0, 0, 0, 0, 0, 0), (53, .ireturn, 0, 0, 0, 0, 0, 0), (54, .aload_n 0, 0, 0, 0, 0, 0, 0), (55, .getfield 15, 1, 1, 0, 87, 0, 0), (58, .iload_n 2, 0, 0, 0, 0, 0, 0), (59, .iload 4, 0, 0, 0, 0, 0, 0), (61, .iastore, 0, 0, 0, 0, 0, 0), (62, .aload_n 0, 0, 0, 0, 0, 0, 0), (63, .dup, 0, 0, 0, 0, 0, 0), (64, .getfield 25, 1, 4, 0, 90, 0, 0), (67, .iload 5, 0, 0, 0, 0, 0, 0), (69, .bipush 119, 0, 0, 0, 0, 119, 0), (71, .if_icmp .ne 9, 80, 0, 0, 0, 0, 0), (74, .iconst 1, 0, 0, 0, 0, 1, 0), (75, .iload_n 2, 0, 0, 0, 0, 0, 0), (76, .ishl, 0, 0, 0, 0, 0, 0), (77, .goto 4, 81, 0, 0, 0, 0, 0), (80, .iconst 0, 0, 0, 0, 0, 0, 0), (81, .ior, 0, 0, 0, 0, 0, 0), (82, .putfield 25, 1, 4, 0, 90, 0, 0), (85, .aload_n 0, 0, 0, 0, 0, 0, 0), (86, .iload_n 2, 0, 0, 0, 0, 0, 0), (87, .iconst 1, 0, 0, 0, 0, 1, 0), (88, .iadd, 0, 0, 0, 0, 0, 0), (89, .putfield 22, 1, 3, 0, 89, 0, 0), (92, .iload_n 3, 0, 0, 0, 0, 0, 0), (93, .iconst 1, 0, 0, 0, 0, 1, 0), (94, .iadd, 0, 0, 0, 0, 0, 0), (95, .aload_n 0, 0, 0, 0, 0, 0, 0), (96, .getfield 18, 1, 2, 0, 88, 0, 0), (99, .if_icmp .ne 5, 104, 0, 0, 0, 0, 0), (102, .iconst (-1), 0, 0, 0, 0, -1, 0), (103, .ireturn, 0, 0, 0, 0, 0, 0), (104, .aload_n 0, 0, 0, 0, 0, 0, 0), (105, .iload_n 3, 0, 0, 0, 0, 0, 0), (106, .iconst 1, 0, 0, 0, 0, 1, 0), (107, .iadd, 0, 0, 0, 0, 0, 0), (108, .invokevirtual 46, 17, 2, 1, 309, 0, 0), (111, .bipush 59, 0, 0, 0, 0, 59, 0), (113, .if_icmp .eq 7, 120, 0, 0, 0, 0, 0), (116, .iload_n 3, 0, 0, 0, 0, 0, 0), (117, .iconst 1, 0, 0, 0, 0, 1, 0), (118, .iadd, 0, 0, 0, 0, 0, 0), (119, .ireturn, 0, 0, 0, 0, 0, 0), (120, .iload_n 3, 0, 0, 0, 0, 0, 0), (121, .iconst 2, 0, 0, 0, 0, 2, 0), (122, .iadd, 0, 0, 0, 0, 0, 0), (123, .istore_n 1, 0, 0, 0, 0, 0, 0), (124, .iinc 2 1, 0, 0, 0, 0, 1, 0), (127, .goto (-123), 4, 0, 0, 0, 0, 0), (130, .iload_n 1, 0, 0, 0, 0, 0, 0), (131, .ireturn, 0, 0, 0, 0, 0, 0)]
def cd_X1_endOfFigures : List pm_R := [(0, .iload_n 1, 0, 0, 0, 0, 0, 0), (1, .istore_n 2, 0, 0, 0, 0, 0, 0), (2, .iload_n 2, 0, 0, 0, 0, 0, 0), (3, .iload_n 1, 0, 0, 0, 0, 0, 0), (4, .iconst 3, 0, 0, 0, 0, 3, 0), (5, .iadd, 0, 0, 0, 0, 0, 0), (6, .if_icmp .ge 29, 35, 0, 0, 0, 0, 0), (9, .aload_n 0, 0, 0, 0, 0, 0, 0), (10, .iload_n 2, 0, 0, 0, 0, 0, 0), (11, .invokevirtual 46, 17, 2, 1, 309, 0, 0), (14, .bipush 48, 0, 0, 0, 0, 48, 0), (16, .if_icmp .lt 19, 35, 0, 0, 0, 0, 0), (19, .aload_n 0, 0, 0, 0, 0, 0, 0), (20, .iload_n 2, 0, 0, 0, 0, 0, 0), (21, .invokevirtual 46, 17, 2, 1, 309, 0, 0), (24, .bipush 57, 0, 0, 0, 0, 57, 0), (26, .if_icmp .gt 9, 35, 0, 0, 0, 0, 0), (29, .iinc 2 1, 0, 0, 0, 0, 1, 0), (32, .goto (-30), 2, 0, 0, 0, 0, 0), (35, .iload_n 2, 0, 0, 0, 0, 0, 0), (36, .ireturn, 0, 0, 0, 0, 0, 0)]
def cd_X1_numberBetween : List pm_R := [(0, .iconst 0, 0, 0, 0, 0, 0, 0), (1, .istore_n 3, 0, 0, 0, 0, 0, 0), (2, .iload_n 1, 0, 0, 0, 0, 0, 0), (3, .istore 4, 0, 0, 0, 0, 0, 0), (5, .iload 4, 0, 0, 0, 0, 0, 0), (7, .iload_n 2, 0, 0, 0, 0, 0, 0), (8, .if_icmp .ge 24, 32, 0, 0, 0, 0, 0), (11, .iload_n 3, 0, 0, 0, 0, 0, 0), (12, .bipush 10, 0, 0, 0, 0, 10, 0), (14, .imul, 0, 0, 0, 0, 0, 0), (15, .aload_n 0, 0, 0, 0, 0, 0, 0), (16, .iload 4, 0, 0, 0, 0, 0, 0), (18, .invokevirtual 46, 17, 2, 1, 309, 0, 0), (21, .iadd, 0, 0, 0, 0, 0, 0), (22, .bipush 48, 0, 0, 0, 0, 48, 0), (24, .isub, 0, 0, 0, 0, 0, 0), (25, .istore_n 3, 0, 0, 0, 0, 0, 0), (26, .iinc 4 1, 0, 0, 0, 0, 1, 0), (29, .goto (-24), 5, 0, 0, 0, 0, 0), (32, .iload_n 3, 0, 0, 0, 0, 0, 0), (33, .ireturn, 0, 0, 0, 0, 0, 0)]
def cd_X1_byteAt : List pm_R := [(0, .iload_n 1, 0, 0, 0, 0, 0, 0), (1, .ifCond .lt 20, 21, 0, 0, 0, 0, 0), (4, .iload_n 1, 0, 0, 0, 0, 0, 0), (5, .aload_n 0, 0, 0, 0, 0, 0, 0), (6, .getfield 18, 1, 2, 0, 88, 0, 0), (9, .if_icmp .ge 12, 21, 0, 0, 0, 0, 0), (12, .aload_n 0, 0, 0, 0, 0, 0, 0), (13, .getfield 9, 1, 0, 0, 86, 0, 0), (16, .iload_n 1, 0, 0, 0, 0, 0, 0), (17, .iaload, 0, 0, 0, 0, 0, 0), (18, .goto 4, 22, 0, 0, 0, 0, 0), (21, .iconst (-1), 0, 0, 0, 0, -1, 0), (22, .ireturn, 0, 0, 0, 0, 0, 0)]
def cd_X2_valueOf : List pm_R := [(0, .aload_n 0, 0, 0, 0, 0, 0, 0), (1, .getfield 9, 2, 0, 0, 75, 0, 0), (4, .iload_n 1, 0, 0, 0, 0, 0, 0), (5, .iaload, 0, 0, 0, 0, 0, 0), (6, .ireturn, 0, 0, 0, 0, 0, 0)]
def cd_X2_change : List pm_R := [(0, .aload_n 0, 0, 0, 0, 0, 0, 0), (1, .getfield 9, 2, 0, 0, 75, 0, 0), (4, .iload_n 1, 0, 0, 0, 0, 0, 0), (5, .iload_n 2, 0, 0, 0, 0, 0, 0), (6, .iastore, 0, 0, 0, 0, 0, 0), (7, .return_, 0, 0, 0, 0, 0, 0)]
def cd_X2_paidFor : List pm_R := [(0, .aload_n 0, 0, 0, 0, 0, 0, 0), (1, .getfield 9, 2, 0, 0, 75, 0, 0), (4, .iconst 0, 0, 0, 0, 0, 0, 0), (5, .iaload, 0, 0, 0, 0, 0, 0), (6, .istore_n 2, 0, 0, 0, 0, 0, 0), (7, .aload_n 0, 0, 0, 0, 0, 0, 0), (8, .getfield 9, 2, 0, 0, 75, 0, 0), (11, .iconst 1, 0, 0, 0, 0, 1, 0), (12, .iaload, 0, 0, 0, 0, 0, 0), (13, .iconst 1, 0, 0, 0, 0, 1, 0), (14, .if_icmp .ne 7, 21, 0, 0, 0, 0, 0), (17, .iconst 1, 0, 0, 0, 0, 1, 0), (18, .goto 4, 22, 0, 0, 0, 0, 0), (21, .iconst 0, 0, 0, 0, 0, 0, 0), (22, .istore_n 3, 0, 0, 0, 0, 0, 0), (23, .iconst 0, 0, 0, 0, 0, 0, 0), (24, .istore 4, 0, 0, 0, 0, 0, 0), (26, .iconst 1, 0, 0, 0, 0, 1, 0), (27, .istore 5, 0, 0, 0, 0, 0, 0), (29, .iload_n 1, 0, 0, 0, 0, 0, 0), (30, .istore 6, 0, 0, 0, 0, 0, 0), (32, .iconst 0, 0, 0, 0, 0, 0, 0), (33, .istore 7, 0, 0, 0, 0, 0, 0), (35, .iload 7, 0, 0, 0, 0, 0, 0), (37, .bipush 31, 0, 0, 0, 0, 31, 0), (39, .if_icmp .ge 51, 90, 0, 0, 0, 0, 0), (42, .iload 6, 0, 0, 0, 0, 0, 0), (44, .ifCond .le 46, 90, 0, 0, 0, 0, 0), (47, .iload_n 2, 0, 0, 0, 0, 0, 0), (48, .iconst 1, 0, 0, 0, 0, 1, 0), (49, .if_icmp .le 41, 90, 0, 0, 0, 0, 0), (52, .iload 4, 0, 0, 0, 0, 0, 0), (54, .iload_n 2, 0, 0, 0, 0, 0, 0), (55, .imul, 0, 0, 0, 0, 0, 0), (56, .iload 6, 0, 0, 0, 0, 0, 0), (58, .iload_n 2, 0, 0, 0, 0, 0, 0), (59, .irem, 0, 0, 0, 0, 0, 0), (60, .iadd, 0, 0, 0, 0, 0, 0), (61, .istore 4, 0, 0, 0, 0, 0, 0), (63, .iload 6, 0, 0, 0, 0, 0, 0), (65, .iload_n 2, 0, 0, 0, 0, 0, 0), (66, .idiv, 0, 0, 0, 0, 0, 0), (67, .istore 6, 0, 0, 0, 0, 0, 0), (69, .iload_n 3, 0, 0, 0, 0, 0, 0), (70, .ifCond .eq 14, 84, 0, 0, 0, 0, 0), (73, .iload 4, 0, 0, 0, 0, 0, 0), (75, .ifCond .ne 9, 84, 0, 0, 0, 0, 0), (78, .iload 5, 0, 0, 0, 0, 0, 0), (80, .iload_n 2, 0, 0, 0, 0, 0, 0), (81, .imul, 0, 0, 0, 0, 0, 0), (82, .istore 5, 0, 0, 0, 0, 0, 0), (84, .iinc 7 1, 0, 0, 0, 0, 1, 0), (87, .goto (-52), 35, 0, 0, 0, 0, 0), (90, .iload 4, 0, 0, 0, 0, 0, 0), (92, .iload 5, 0, 0, 0, 0, 0, 0), (94, .imul, 0, 0, 0, 0, 0, 0), (95, .ireturn, 0, 0, 0, 0, 0, 0)]
def cd_X2_splitUp : List pm_R := [(0, .aload_n 0, 0, 0, 0, 0, 0, 0), (1, .getfield 9, 2, 0, 0, 75, 0, 0), (4, .iconst 0, 0, 0, 0, 0, 0, 0), (5, .iaload, 0, 0, 0, 0, 0, 0), (6, .istore_n 3, 0, 0, 0, 0, 0, 0), (7, .iconst 0, 0, 0, 0, 0, 0, 0), (8, .istore 4, 0, 0, 0, 0, 0, 0), (10, .iload_n 1, 0, 0, 0, 0, 0, 0), (11, .istore 5, 0, 0, 0, 0, 0, 0), (13, .iload 4, 0, 0, 0, 0, 0, 0), (15, .aload_n 2, 0, 0, 0, 0, 0, 0), (16, .arraylength, 0, 0, 0, 0, 0, 0), (17, .if_icmp .ge 33, 50, 0, 0, 0, 0, 0), (20, .iload 5, 0, 0, 0, 0, 0, 0), (22, .ifCond .le 28, 50, 0, 0, 0, 0, 0), (25, .iload_n 3, 0, 0, 0, 0, 0, 0), (26, .iconst 1, 0, 0, 0, 0, 1, 0), (27, .if_icmp .le 23, 50, 0, 0, 0, 0, 0), (30, .aload_n 2, 0, 0, 0, 0, 0, 0), (31, .iload 4, 0, 0, 0, 0, 0, 0), (33, .iload 5, 0, 0, 0, 0, 0, 0), (35, .iload_n 3, 0, 0, 0, 0, 0, 0), (36, .irem, 0, 0, 0, 0, 0, 0), (37, .iastore, 0, 0, 0, 0, 0, 0), (38, .iload 5, 0, 0, 0, 0, 0, 0), (40, .iload_n 3, 0, 0, 0, 0, 0, 0), (41, .idiv, 0, 0, 0, 0, 0, 0), (42, .istore 5, 0, 0, 0, 0, 0, 0), (44, .iinc 4 1, 0, 0, 0, 0, 1, 0), (47, .goto (-34), 13, 0, 0, 0, 0, 0), (50, .iload 4, 0, 0, 0, 0, 0, 0), (52, .ireturn, 0, 0, 0, 0, 0, 0)]
def cd_X3_part : List pm_R := [(0, .iconst 0, 0, 0, 0, 0, 0, 0), (1, .istore 4, 0, 0, 0, 0, 0, 0), (3, .iload 4, 0, 0, 0, 0, 0, 0), (5, .iload_n 1, 0, 0, 0, 0, 0, 0), (6, .if_icmp .gt 39, 45, 0, 0, 0, 0, 0), (9, .aload_n 0, 0, 0, 0, 0, 0, 0), (10, .getfield 9, 3, 1, 0, 206, 0, 0), (13, .iload 4, 0, 0, 0, 0, 0, 0), (15, .aload_n 0, 0, 0, 0, 0, 0, 0), (16, .getfield 18, 3, 0, 0, 205, 0, 0), (19, .iload 4, 0, 0, 0, 0, 0, 0), (21, .invokevirtual 22, 20, 2, 2, 590, 0, 0), (24, .iastore, 0, 0, 0, 0, 0, 0), (25, .aload_n 0, 0, 0, 0, 0, 0, 0), (26, .getfield 15, 3, 2, 0, 207, 0, 0), (29, .iload 4, 0, 0, 0, 0, 0, 0), (31, .aload_n 0, 0, 0, 0, 0, 0, 0), (32, .getfield 9, 3, 1, 0, 206, 0, 0), (35, .iload 4, 0, 0, 0, 0, 0, 0), (37, .iaload, 0, 0, 0, 0, 0, 0), (38, .iastore, 0, 0, 0, 0, 0, 0), (39, .iinc 4 1, 0, 0, 0, 0, 1, 0), (42, .goto (-39), 3, 0, 0, 0, 0, 0), (45, .iconst 2, 0, 0, 0, 0, 2, 0), (46, .istore 4, 0, 0, 0, 0, 0, 0), (48, .iload 4, 0, 0, 0, 0, 0, 0), (50, .iload_n 2, 0, 0, 0, 0, 0, 0), (51, .if_icmp .gt 37, 88, 0, 0, 0, 0, 0), (54, .iload_n 1, 0, 0, 0, 0, 0, 0), (55, .istore 5, 0, 0, 0, 0, 0, 0), (57, .iload 5, 0, 0, 0, 0, 0, 0), (59, .ifCond .lt 23, 82, 0, 0, 0, 0, 0), (62, .aload_n 0, 0, 0, 0, 0, 0, 0), (63, .getfield 15, 3, 2, 0, 207, 0, 0), (66, .iload 5, 0, 0, 0, 0, 0, 0), (68, .aload_n 0, 0, 0, 0, 0, 0, 0), (69, .iload 5, 0, 0, 0, 0, 0, 0), (71, .iload_n 3, 0, 0, 0, 0, 0, 0), (72, .invokevirtual 28, 23, 3, 3, 591, 0, 0), (75, .iastore, 0, 0, 0, 0, 0, 0), (76, .iinc 5 (-1), 0, 0, 0, 0, -1, 0), (79, .goto (-22), 57, 0, 0, 0, 0, 0), (82, .iinc 4 1, 0, 0, 0, 0, 1, 0), (85, .goto (-37), 48, 0, 0, 0, 0, 0), (88, .aload_n 0, 0, 0, 0, 0, 0, 0), (89, .getfield 15, 3, 2, 0, 207, 0, 0), (92, .iload_n 1, 0, 0, 0, 0, 0, 0), (93, .iaload, 0, 0, 0, 0, 0, 0), (94, .ireturn, 0, 0, 0, 0, 0, 0)]
def cd_X3_bestOfTwo : List pm_R := [(0, .aload_n 0, 0, 0, 0, 0, 0, 0), (1, .getfield 15, 3, 2, 0, 207, 0, 0), (4, .iload_n 1, 0, 0, 0, 0, 0, 0), (5, .iaload, 0, 0, 0, 0, 0, 0), (6, .istore_n 3, 0, 0, 0, 0, 0, 0), (7, .iconst 1, 0, 0, 0, 0, 1, 0), (8, .istore 4, 0, 0, 0, 0, 0, 0), (10, .iload 4, 0, 0, 0, 0, 0, 0), (12, .iload_n 1, 0, 0, 0, 0, 0, 0), (13, .if_icmp .gt 50, 63, 0, 0, 0, 0, 0), (16, .aload_n 0, 0, 0, 0, 0, 0, 0), (17, .getfield 9, 3, 1, 0, 206, 0, 0), (20, .iload 4, 0, 0, 0, 0, 0, 0), (22, .iaload, 0, 0, 0, 0, 0, 0), (23, .aload_n 0, 0, 0, 0, 0, 0, 0), (24, .getfield 15, 3, 2, 0, 207, 0, 0), (27, .iload_n 1, 0, 0, 0, 0, 0, 0), (28, .iload 4, 0, 0, 0, 0, 0, 0), (30, .isub, 0, 0, 0, 0, 0, 0), (31, .iaload, 0, 0, 0, 0, 0, 0), (32, .iadd, 0, 0, 0, 0, 0, 0), (33, .istore 5, 0, 0, 0, 0, 0, 0), (35, .iload_n 2, 0, 0, 0, 0, 0, 0), (36, .ifCond .eq 12, 48, 0, 0, 0, 0, 0), (39, .iload 5, 0, 0, 0, 0, 0, 0), (41, .iload_n 3, 0, 0, 0, 0, 0, 0), (42, .if_icmp .le 15, 57, 0, 0, 0, 0, 0), (45, .goto 9, 54, 0, 0, 0, 0, 0), (48, .iload 5, 0, 0, 0, 0, 0, 0), (50, .iload_n 3, 0, 0, 0, 0, 0, 0), (51, .if_icmp .ge 6, 57, 0, 0, 0, 0, 0), (54, .iload 5, 0, 0, 0, 0, 0, 0), (56, .istore_n 3, 0, 0, 0, 0, 0, 0), (57, .iinc 4 1, 0, 0, 0, 0, 1, 0), (60, .goto (-50), 10, 0, 0, 0, 0, 0), (63, .iload_n 3, 0, 0, 0, 0, 0, 0), (64, .ireturn, 0, 0, 0, 0, 0, 0)]
def cd_X4_ownerOf : List pm_R := [(0, .aload_n 0, 0, 0, 0, 0, 0, 0), (1, .getfield 9, 4, 2, 0, 156, 0, 0), (4, .iload_n 1, 0, 0, 0, 0, 0, 0), (5, .iaload, 0, 0, 0, 0, 0, 0), (6, .ireturn, 0, 0, 0, 0, 0, 0)]
def cd_X4_give : List pm_R := [(0, .aload_n 0, 0, 0, 0, 0, 0, 0), (1, .getfield 9, 4, 2, 0, 156, 0, 0), (4, .iload_n 1, 0, 0, 0, 0, 0, 0), (5, .iload_n 2, 0, 0, 0, 0, 0, 0), (6, .iastore, 0, 0, 0, 0, 0, 0), (7, .return_, 0, 0, 0, 0, 0, 0)]
def cd_X4_broughtInAllOrders : List pm_R := [(0, .iconst 1, 0, 0, 0, 0, 1, 0), (1, .iload_n 1, 0, 0, 0, 0, 0, 0), (2, .ishl, 0, 0, 0, 0, 0, 0), (3, .istore_n 2, 0, 0, 0, 0, 0, 0), (4, .lconst 0, 0, 0, 0, 0, 0, 0), (5, .lstore_n 3, 0, 0, 0, 0, 0, 0), (6, .iconst 0, 0, 0, 0, 0, 0, 0), (7, .istore 5, 0, 0, 0, 0, 0, 0), (9, .iload 5, 0, 0, 0, 0, 0, 0), (11, .bipush 16, 0, 0, 0, 0, 16, 0), (13, .if_icmp .ge 49, 62, 0, 0, 0, 0, 0), (16, .iload 5, 0, 0, 0, 0, 0, 0), (18, .iload_n 2, 0, 0, 0, 0, 0, 0), (19, .iand, 0, 0, 0, 0, 0, 0), (20, .ifCond .ne 36, 56, 0, 0, 0, 0, 0), (23, .getstatic 23, 51, 2, 0, 604, 0, 0), (26, .iload 5, 0, 0, 0, 0, 0, 0), (28, .invokestatic 26, 163, 1, 0, 606, 0, 0), (31, .iaload, 0, 0, 0, 0, 0, 0), (32, .istore 6, 0, 0, 0, 0, 0, 0), (34, .lload_n 3, 0, 0, 0, 0, 0, 0), (35, .iload 6, 0, 0, 0, 0, 0, 0), (37, .aload_n 0, 0, 0, 0, 0, 0, 0), (38, .iload 5, 0, 0, 0, 0, 0, 0), (40, .iload_n 2, 0, 0, 0, 0, 0, 0), (41, .ior, 0, 0, 0, 0, 0, 0), (42, .invokevirtual 32, 28, 2, 4, 607, 0, 0), (45, .aload_n 0, 0, 0, 0, 0, 0, 0), (46, .iload 5, 0, 0, 0, 0, 0, 0), (48, .invokevirtual 32, 28, 2, 4, 607, 0, 0), (51, .isub, 0, 0, 0, 0, 0, 0), (52, .imul, 0, 0, 0, 0, 0, 0), (53, .i2l, 0, 0, 0, 0, 0, 0), (54, .ladd, 0, 0, 0, 0, 0, 0), (55, .lstore_n 3, 0, 0, 0, 0, 0, 0), (56, .iinc 5 1, 0, 0, 0, 0, 1, 0), (59, .goto (-50), 9, 0, 0, 0, 0, 0), (62, .lload_n 3, 0, 0, 0, 0, 0, 0), (63, .lreturn, 0, 0, 0, 0, 0, 0)]
def cd_X4_commonWithOrders : List pm_R := [(0, .bipush 24, 0, 0, 0, 0, 24, 0), (2, .istore_n 2, 0, 0, 0, 0, 0, 0), (3, .iload_n 2, 0, 0, 0, 0, 0, 0), (4, .iconst 1, 0, 0, 0, 0, 1, 0), (5, .if_icmp .le 25, 30, 0, 0, 0, 0, 0), (8, .bipush 24, 0, 0, 0, 0, 24, 0), (10, .iload_n 2, 0, 0, 0, 0, 0, 0), (11, .irem, 0, 0, 0, 0, 0, 0), (12, .ifCond .ne 12, 24, 0, 0, 0, 0, 0), (15, .lload_n 0, 0, 0, 0, 0, 0, 0), (16, .iload_n 2, 0, 0, 0, 0, 0, 0), (17, .i2l, 0, 0, 0, 0, 0, 0), (18, .lrem, 0, 0, 0, 0, 0, 0), (19, .lconst 0, 0, 0, 0, 0, 0, 0), (20, .lcmp, 0, 0, 0, 0, 0, 0), (21, .ifCond .eq 9, 30, 0, 0, 0, 0, 0), (24, .iinc 2 (-1), 0, 0, 0, 0, -1, 0), (27, .goto (-24), 3, 0, 0, 0, 0, 0), (30, .iload_n 2, 0, 0, 0, 0, 0, 0), (31, .ireturn, 0, 0, 0, 0, 0, 0)]
def cd_X4_paidBySet : List pm_R := [(0, .iconst 0, 0, 0, 0, 0, 0, 0), (1, .istore_n 2, 0, 0, 0, 0, 0, 0), (2, .iconst 0, 0, 0, 0, 0, 0, 0), (3, .istore_n 3, 0, 0, 0, 0, 0, 0), (4, .iload_n 3, 0, 0, 0, 0, 0, 0), (5, .aload_n 0, 0, 0, 0, 0, 0, 0), (6, .getfield 19, 4, 1, 0, 155, 0, 0), (9, .invokevirtual 35, 5, 1, 1, 611, 0, 0), (12, .if_icmp .ge 33, 45, 0, 0, 0, 0, 0), (15, .iload_n 1, 0, 0, 0, 0, 0, 0), (16, .iconst 1, 0, 0, 0, 0, 1, 0), (17, .aload_n 0, 0, 0, 0, 0, 0, 0), (18, .getfield 9, 4, 2, 0, 156, 0, 0), (21, .iload_n 3, 0, 0, 0, 0, 0, 0), (22, .iaload, 0, 0, 0, 0, 0, 0), (23, .ishl, 0, 0, 0, 0, 0, 0), (24, .iand, 0, 0, 0, 0, 0, 0), (25, .ifCond .eq 14, 39, 0, 0, 0, 0, 0), (28, .iload_n 2, 0, 0, 0, 0, 0, 0), (29, .aload_n 0, 0, 0, 0, 0, 0, 0), (30, .getfield 19, 4, 1, 0, 155, 0, 0), (33, .iload_n 3, 0, 0, 0, 0, 0, 0), (34, .invokevirtual 41, 9, 2, 1, 612, 0, 0), (37, .iadd, 0, 0, 0, 0, 0, 0), (38, .istore_n 2, 0, 0, 0, 0, 0, 0), (39, .iinc 3 1, 0, 0, 0, 0, 1, 0), (42, .goto (-38), 4, 0, 0, 0, 0, 0), (45, .aload_n 0, 0, 0, 0, 0, 0, 0), (46, .getfield 15, 4, 0, 0, 154, 0, 0), (49, .iload_n 2, 0, 0, 0, 0, 0, 0), (50, .invokevirtual 44, 20, 2, 2, 613, 0, 0), (53, .ireturn, 0, 0, 0, 0, 0, 0)]
def cd_X5_payOn : List pm_R := [(0, .aload_n 0, 0, 0, 0, 0, 0, 0), (1, .getfield 19, 5, 0, 0, 170, 0, 0), (4, .iload_n 2, 0, 0, 0, 0, 0, 0), (5, .invokevirtual 23, 20, 2, 2, 545, 0, 0), (8, .istore_n 3, 0, 0, 0, 0, 0, 0), (9, .aload_n 0, 0, 0, 0, 0, 0, 0), (10, .getfield 9, 5, 1, 0, 171, 0, 0), (13, .iconst 0, 0, 0, 0, 0, 0, 0), (14, .iload_n 1, 0, 0, 0, 0, 0, 0), (15, .iastore, 0, 0, 0, 0, 0, 0), (16, .aload_n 0, 0, 0, 0, 0, 0, 0), (17, .iconst 0, 0, 0, 0, 0, 0, 0), (18, .putfield 15, 5, 2, 0, 172, 0, 0), (21, .aload_n 0, 0, 0, 0, 0, 0, 0), (22, .getfield 15, 5, 2, 0, 172, 0, 0), (25, .sipush 200, 0, 0, 0, 0, 200, 0), (28, .if_icmp .ge 58, 86, 0, 0, 0, 0, 0), (31, .iload_n 3, 0, 0, 0, 0, 0, 0), (32, .aload_n 0, 0, 0, 0, 0, 0, 0), (33, .getfield 9, 5, 1, 0, 171, 0, 0), (36, .aload_n 0, 0, 0, 0, 0, 0, 0), (37, .getfield 15, 5, 2, 0, 172, 0, 0), (40, .iaload, 0, 0, 0, 0, 0, 0), (41, .if_icmp .gt 45, 86, 0, 0, 0, 0, 0), (44, .aload_n 0, 0, 0, 0, 0, 0, 0), (45, .getfield 9, 5, 1, 0, 171, 0, 0), (48, .aload_n 0, 0, 0, 0, 0, 0, 0), (49, .getfield 15, 5, 2, 0, 172, 0, 0), (52, .iconst 1, 0, 0, 0, 0, 1, 0), (53, .iadd, 0, 0, 0, 0, 0, 0), (54, .aload_n 0, 0, 0, 0, 0, 0, 0), (55, .getfield 19, 5, 0, 0, 170, 0, 0), (58, .aload_n 0, 0, 0, 0, 0, 0, 0), (59, .getfield 9, 5, 1, 0, 171, 0, 0), (62, .aload_n 0, 0, 0, 0, 0, 0, 0), (63, .getfield 15, 5, 2, 0, 172, 0, 0), (66, .iaload, 0, 0, 0, 0, 0, 0), (67, .iload_n 3, 0, 0, 0, 0, 0, 0), (68, .isub, 0, 0, 0, 0, 0, 0), (69, .invokevirtual 23, 20, 2, 2, 545, 0, 0), (72, .iastore, 0, 0, 0, 0, 0, 0), (73, .aload_n 0, 0, 0, 0, 0, 0, 0), (74, .dup, 0, 0, 0, 0, 0, 0), (75, .getfield 15, 5, 2, 0, 172, 0, 0), (78, .iconst 1, 0, 0, 0, 0, 1, 0), (79, .iadd, 0, 0, 0, 0, 0, 0), (80, .putfield 15, 5, 2, 0, 172, 0, 0), (83, .goto (-62), 21, 0, 0, 0, 0, 0), (86, .return_, 0, 0, 0, 0, 0, 0)]
def cd_X5_roundsPaid : List pm_R := [(0, .aload_n 0, 0, 0, 0, 0, 0, 0), (1, .getfield 15, 5, 2, 0, 172, 0, 0), (4, .ireturn, 0, 0, 0, 0, 0, 0)]
def cd_X5_contents : List pm_R := [(0, .aload_n 0, 0, 0, 0, 0, 0, 0), (1, .getfield 9, 5, 1, 0, 171, 0, 0), (4, .aload_n 0, 0, 0, 0, 0, 0, 0), (5, .getfield 15, 5, 2, 0, 172, 0, 0), (8, .iaload, 0, 0, 0, 0, 0, 0), (9, .ireturn, 0, 0, 0, 0, 0, 0)]
def cd_X5_firstReturn : List pm_R := [(0, .iconst 1, 0, 0, 0, 0, 1, 0), (1, .istore_n 1, 0, 0, 0, 0, 0, 0), (2, .iload_n 1, 0, 0, 0, 0, 0, 0), (3, .aload_n 0, 0, 0, 0, 0, 0, 0), (4, .getfield 15, 5, 2, 0, 172, 0, 0), (7, .if_icmp .gt 39, 46, 0, 0, 0, 0, 0), (10, .iconst 0, 0, 0, 0, 0, 0, 0), (11, .istore_n 2, 0, 0, 0, 0, 0, 0), (12, .iload_n 2, 0, 0, 0, 0, 0, 0), (13, .iload_n 1, 0, 0, 0, 0, 0, 0), (14, .if_icmp .ge 26, 40, 0, 0, 0, 0, 0), (17, .aload_n 0, 0, 0, 0, 0, 0, 0), (18, .getfield 9, 5, 1, 0, 171, 0, 0), (21, .iload_n 2, 0, 0, 0, 0, 0, 0), (22, .iaload, 0, 0, 0, 0, 0, 0), (23, .aload_n 0, 0, 0, 0, 0, 0, 0), (24, .getfield 9, 5, 1, 0, 171, 0, 0), (27, .iload_n 1, 0, 0, 0, 0, 0, 0), (28, .iaload, 0, 0, 0, 0, 0, 0), (29, .if_icmp .ne 5, 34, 0, 0, 0, 0, 0), (32, .iload_n 1, 0, 0, 0, 0, 0, 0), (33, .ireturn, 0, 0, 0, 0, 0, 0), (34, .iinc 2 1, 0, 0, 0, 0, 1, 0), (37, .goto (-25), 12, 0, 0, 0, 0, 0), (40, .iinc 1 1, 0, 0, 0, 0, 1, 0), (43, .goto (-41), 2, 0, 0, 0, 0, 0), (46, .iconst (-1), 0, 0, 0, 0, -1, 0), (47, .ireturn, 0, 0, 0, 0, 0, 0)]
def cd_X6_isLost : List pm_R := [(0, .aload_n 0, 0, 0, 0, 0, 0, 0), (1, .getfield 15, 6, 1, 0, 239, 0, 0), (4, .iconst (-1), 0, 0, 0, 0, -1, 0), (5, .if_icmp .ne 7, 12, 0, 0, 0, 0, 0), (8, .iconst 1, 0, 0, 0, 0, 1, 0), (9, .goto 4, 13, 0, 0, 0, 0, 0), (12, .iconst 0, 0, 0, 0, 0, 0, 0), (13, .ireturn, 0, 0, 0, 0, 0, 0)]
def cd_X6_isLike : List pm_R := [(0, .aload_n 0, 0, 0, 0, 0, 0, 0), (1, .getfield 15, 6, 1, 0, 239, 0, 0), (4, .aload_n 1, 0, 0, 0, 0, 0, 0), (5, .getfield 15, 6, 1, 0, 239, 0, 0), (8, .if_icmp .ne 7, 15, 0, 0, 0, 0, 0), (11, .iconst 1, 0, 0, 0, 0, 1, 0), (12, .goto 4, 16, 0, 0, 0, 0, 0), (15, .iconst 0, 0, 0, 0, 0, 0, 0), (16, .ireturn, 0, 0, 0, 0, 0, 0)]
def cd_X6_size : List pm_R := [(0, .aload_n 0, 0, 0, 0, 0, 0, 0), (1, .getfield 19, 6, 2, 0, 240, 0, 0), (4, .ireturn, 0, 0, 0, 0, 0, 0)]
def cd_X6_itemAt : List pm_R := [(0, .aload_n 0, 0, 0, 0, 0, 0, 0), (1, .getfield 9, 6, 0, 0, 238, 0, 0), (4, .iload_n 1, 0, 0, 0, 0, 0, 0), (5, .iaload, 0, 0, 0, 0, 0, 0), (6, .ireturn, 0, 0, 0, 0, 0, 0)]
def cd_X6_renew : List pm_R := [(0, .aload_n 0, 0, 0, 0, 0, 0, 0), (1, .iload_n 1, 0, 0, 0, 0, 0, 0), (2, .putfield 15, 6, 1, 0, 239, 0, 0), (5, .aload_n 0, 0, 0, 0, 0, 0, 0), (6, .iload_n 2, 0, 0, 0, 0, 0, 0), (7, .putfield 19, 6, 2, 0, 240, 0, 0), (10, .aload_n 0, 0, 0, 0, 0, 0, 0), (11, .getfield 9, 6, 0, 0, 238, 0, 0), (14, .iconst 0, 0, 0, 0, 0, 0, 0), (15, .invokestatic 22, 164, 2, 0, 660, 0, 0), (18, .return_, 0, 0, 0, 0, 0, 0)]
def cd_X6_giveUp : List pm_R := [(0, .aload_n 0, 0, 0, 0, 0, 0, 0), (1, .iconst (-1), 0, 0, 0, 0, -1, 0), (2, .putfield 15, 6, 1, 0, 239, 0, 0), (5, .aload_n 0, 0, 0, 0, 0, 0, 0), (6, .iconst 0, 0, 0, 0, 0, 0, 0), (7, .putfield 19, 6, 2, 0, 240, 0, 0), (10, .return_, 0, 0, 0, 0, 0, 0)]
def cd_X6_put : List pm_R := [(0, .aload_n 0, 0, 0, 0, 0, 0, 0), (1, .getfield 15, 6, 1, 0, 239, 0, 0), (4, .lookupswitch 50 #[(0, 28), (1, 39)], 28, 0, 0, 0, 0, 0), (32, .aload_n 0, 0, 0, 0, 0, 0, 0), (33, .getfield 9, 6, 0, 0, 238, 0, 0), (36, .iload_n 1, 0, 0, 0, 0, 0, 0), (37, .iload_n 2, 0, 0, 0, 0, 0, 0), (38, .i2b, 0, 0, 0, 0, 0, 0), (39, .iastore, 0, 0, 0, 0, 0, 0), (40, .goto 21, 61, 0, 0, 0, 0, 0), (43, .aload_n 0, 0, 0, 0, 0, 0, 0), (44, .getfield 9, 6, 0, 0, 238, 0, 0), (47, .iload_n 1, 0, 0, 0, 0, 0, 0), (48, .iload_n 2, 0, 0, 0, 0, 0, 0), (49, .i2s, 0, 0, 0, 0, 0, 0), (50, .iastore, 0, 0, 0, 0, 0, 0), (51, .goto 10, 61, 0, 0, 0, 0, 0), (54, .aload_n 0, 0, 0, 0, 0, 0, 0), (55, .getfield 9, 6, 0, 0, 238, 0, 0), (58, .iload_n 1, 0, 0, 0, 0, 0, 0), (59, .iload_n 2, 0, 0, 0, 0, 0, 0), (60, .iastore, 0, 0, 0, 0, 0, 0), (61, .return_, 0, 0, 0, 0, 0, 0)]
def cd_X6_findingAt : List pm_R := [(0, .aload_n 0, 0, 0, 0, 0, 0, 0), (1, .invokevirtual 28, 33, 1, 6, 677, 0, 0), (4, .ifCond .eq 5, 9, 0, 0, 0, 0, 0), (7, .iconst 1, 0, 0, 0, 0, 1, 0), (8, .ireturn, 0, 0, 0, 0, 0, 0), (9, .aload_n 0, 0, 0, 0, 0, 0, 0), (10, .getfield 15, 6, 1, 0, 239, 0, 0), (13, .iload_n 1, 0, 0, 0, 0, 0, 0), (14, .if_icmp .eq 5, 19, 0, 0, 0, 0, 0), (17, .iconst 3, 0, 0, 0, 0, 3, 0), (18, .ireturn, 0, 0, 0, 0, 0, 0), (19, .iload_n 2, 0, 0, 0, 0, 0, 0), (20, .iconst 0, 0, 0, 0, 0, 0, 0), (21, .aload_n 0, 0, 0, 0, 0, 0, 0), (22, .getfield 19, 6, 2, 0, 240, 0, 0), (25, .iconst 1, 0, 0, 0, 0, 1, 0), (26, .isub, 0, 0, 0, 0, 0, 0), (27, .invokestatic 32, 99, 3, 1, 678, 0, 0), (30, .ifCond .eq 7, 37, 0, 0, 0, 0, 0), (33, .iconst 0, 0, 0, 0, 0, 0, 0), (34, .goto 4, 38, 0, 0, 0, 0, 0), (37, .iconst 2, 0, 0, 0, 0, 2, 0), (38, .ireturn, 0, 0, 0, 0, 0, 0)]
def cd_X6_hasRun : List pm_R := [(0, .iload_n 1, 0, 0, 0, 0, 0, 0), (1, .ifCond .lt 29, 30, 0, 0, 0, 0, 0), (4, .iload_n 2, 0, 0, 0, 0, 0, 0), (5, .ifCond .lt 25, 30, 0, 0, 0, 0, 0), (8, .iload_n 1, 0, 0, 0, 0, 0, 0), (9, .aload_n 0, 0, 0, 0, 0, 0, 0), (10, .getfield 19, 6, 2, 0, 240, 0, 0), (13, .if_icmp .gt 17, 30, 0, 0, 0, 0, 0), (16, .iload_n 2, 0, 0, 0, 0, 0, 0), (17, .aload_n 0, 0, 0, 0, 0, 0, 0), (18, .getfield 19, 6, 2, 0, 240, 0, 0), (21, .iload_n 1, 0, 0, 0, 0, 0, 0), (22, .isub, 0, 0, 0, 0, 0, 0), (23, .if_icmp .gt 7, 30, 0, 0, 0, 0, 0), (26, .iconst 1, 0, 0, 0, 0, 1, 0), (27, .goto 4, 31, 0, 0, 0, 0, 0), (30, .iconst 0, 0, 0, 0, 0, 0, 0), (31, .ireturn, 0, 0, 0, 0, 0, 0)]
def cd_X6_takeRun : List pm_R := [(0, .aload_n 1, 0, 0, 0, 0, 0, 0), (1, .getfield 9, 6, 0, 0, 238, 0, 0), (4, .iload_n 2, 0, 0, 0, 0, 0, 0), (5, .aload_n 0, 0, 0, 0, 0, 0, 0), (6, .getfield 9, 6, 0, 0, 238, 0, 0), (9, .iload_n 3, 0, 0, 0, 0, 0, 0), (10, .iload 4, 0, 0, 0, 0, 0, 0), (12, .invokestatic 36, 0, 5, 2, 704, 0, 0), (15, .return_, 0, 0, 0, 0, 0, 0)]
def cd_X6_fits : List pm_R := [(0, .iload_n 2, 0, 0, 0, 0, 0, 0), (1, .aload_n 0, 0, 0, 0, 0, 0, 0), (2, .getfield 19, 6, 2, 0, 240, 0, 0), (5, .if_icmp .eq 5, 10, 0, 0, 0, 0, 0), (8, .iconst 0, 0, 0, 0, 0, 0, 0), (9, .ireturn, 0, 0, 0, 0, 0, 0), (10, .iconst 0, 0, 0, 0, 0, 0, 0), (11, .istore_n 3, 0, 0, 0, 0, 0, 0), (12, .iload_n 3, 0, 0, 0, 0, 0, 0), (13, .iload_n 2, 0, 0, 0, 0, 0, 0), (14, .if_icmp .ge 37, 51, 0, 0, 0, 0, 0), (17, .aload_n 0, 0, 0, 0, 0, 0, 0), (18, .getfield 9, 6, 0, 0, 238, 0, 0), (21, .iload_n 3, 0, 0, 0, 0, 0, 0), (22, .iaload, 0, 0, 0, 0, 0, 0), (23, .iconst (-1), 0, 0, 0, 0, -1, 0), (24, .if_icmp .eq 21, 45, 0, 0, 0, 0, 0), (27, .aload_n 0, 0, 0, 0, 0, 0, 0), (28, .getfield 9, 6, 0, 0, 238, 0, 0), (31, .iload_n 3, 0, 0, 0, 0, 0, 0), (32, .iaload, 0, 0, 0, 0, 0, 0), (33, .aload_n 1, 0, 0, 0, 0, 0, 0), (34, .iload_n 2, 0, 0, 0, 0, 0, 0), (35, .iconst 1, 0, 0, 0, 0, 1, 0), (36, .isub, 0, 0, 0, 0, 0, 0), (37, .iload_n 3, 0, 0, 0, 0, 0, 0), (38, .isub, 0, 0, 0, 0, 0, 0), (39, .iaload, 0, 0, 0, 0, 0, 0), (40, .if_icmp .eq 5, 45, 0, 0, 0, 0, 0), (43, .iconst 0, 0, 0, 0, 0, 0, 0), (44, .ireturn, 0, 0, 0, 0, 0, 0), (45, .iinc 3 1, 0, 0, 0, 0, 1, 0), (48, .goto (-36), 12, 0, 0, 0, 0, 0), (51, .iconst 1, 0, 0, 0, 0, 1, 0), (52, .ireturn, 0, 0, 0, 0, 0, 0)]
def cd_X7_forget : List pm_R := [(0, .aload_n 0, 0, 0, 0, 0, 0, 0), (1, .iconst 0, 0, 0, 0, 0, 0, 0), (2, .putfield 24, 7, 6, 1, 117, 0, 0), (5, .aload_n 0, 0, 0, 0, 0, 0, 0), (6, .iconst 0, 0, 0, 0, 0, 0, 0), (7, .putfield 28, 7, 7, 1, 118, 0, 0), (10, .return_, 0, 0, 0, 0, 0, 0)]
def cd_X7_sumOf : List pm_R := [(0, .aload_n 0, 0, 0, 0, 0, 0, 0), (1, .invokevirtual 52, 55, 1, 7, 441, 0, 0), (4, .aload_n 0, 0, 0, 0, 0, 0, 0), (5, .getfield 9, 7, 2, 0, 113, 0, 0), (8, .iload_n 1, 0, 0, 0, 0, 0, 0), (9, .iaload, 0, 0, 0, 0, 0, 0), (10, .ireturn, 0, 0, 0, 0, 0, 0)]
def cd_X7_paidOf : List pm_R := [(0, .aload_n 0, 0, 0, 0, 0, 0, 0), (1, .invokevirtual 52, 55, 1, 7, 441, 0, 0), (4, .aload_n 0, 0, 0, 0, 0, 0, 0), (5, .getfield 15, 7, 3, 0, 114, 0, 0), (8, .iload_n 1, 0, 0, 0, 0, 0, 0), (9, .iaload, 0, 0, 0, 0, 0, 0), (10, .ireturn, 0, 0, 0, 0, 0, 0)]
def cd_X7_gainOf : List pm_R := [(0, .aload_n 0, 0, 0, 0, 0, 0, 0), (1, .iload_n 1, 0, 0, 0, 0, 0, 0), (2, .invokevirtual 55, 45, 2, 7, 523, 0, 0), (5, .aload_n 0, 0, 0, 0, 0, 0, 0), (6, .iload_n 1, 0, 0, 0, 0, 0, 0), (7, .invokevirtual 59, 46, 2, 7, 524, 0, 0), (10, .isub, 0, 0, 0, 0, 0, 0), (11, .ireturn, 0, 0, 0, 0, 0, 0)]
def cd_X7_leastPaid : List pm_R := [(0, .aload_n 0, 0, 0, 0, 0, 0, 0), (1, .invokevirtual 62, 56, 1, 7, 460, 0, 0), (4, .aload_n 0, 0, 0, 0, 0, 0, 0), (5, .getfield 31, 7, 8, 0, 119, 0, 0), (8, .ireturn, 0, 0, 0, 0, 0, 0)]
def cd_X7_leastBills : List pm_R := [(0, .aload_n 0, 0, 0, 0, 0, 0, 0), (1, .invokevirtual 62, 56, 1, 7, 460, 0, 0), (4, .aload_n 0, 0, 0, 0, 0, 0, 0), (5, .getfield 35, 7, 9, 0, 120, 0, 0), (8, .ireturn, 0, 0, 0, 0, 0, 0)]
def cd_X7_leastBits : List pm_R := [(0, .aload_n 0, 0, 0, 0, 0, 0, 0), (1, .invokevirtual 62, 56, 1, 7, 460, 0, 0), (4, .aload_n 0, 0, 0, 0, 0, 0, 0), (5, .getfield 38, 7, 10, 0, 121, 0, 0), (8, .ireturn, 0, 0, 0, 0, 0, 0)]
def cd_X7_mostPaid : List pm_R := [(0, .aload_n 0, 0, 0, 0, 0, 0, 0), (1, .invokevirtual 62, 56, 1, 7, 460, 0, 0), (4, .aload_n 0, 0, 0, 0, 0, 0, 0), (5, .getfield 41, 7, 11, 0, 122, 0, 0), (8, .ireturn, 0, 0, 0, 0, 0, 0)]
def cd_X7_greatestGain : List pm_R := [(0, .aload_n 0, 0, 0, 0, 0, 0, 0), (1, .invokevirtual 52, 55, 1, 7, 441, 0, 0), (4, .iconst 1, 0, 0, 0, 0, 1, 0), (5, .istore_n 2, 0, 0, 0, 0, 0, 0), (6, .iconst 2, 0, 0, 0, 0, 2, 0), (7, .istore_n 3, 0, 0, 0, 0, 0, 0), (8, .iload_n 3, 0, 0, 0, 0, 0, 0), (9, .aload_n 0, 0, 0, 0, 0, 0, 0), (10, .getfield 48, 7, 1, 0, 112, 0, 0), (13, .invokevirtual 65, 6, 1, 1, 469, 0, 0), (16, .if_icmp .gt 48, 64, 0, 0, 0, 0, 0), (19, .iload_n 3, 0, 0, 0, 0, 0, 0), (20, .invokestatic 71, 163, 1, 0, 475, 0, 0), (23, .iload_n 1, 0, 0, 0, 0, 0, 0), (24, .if_icmp .gt 34, 58, 0, 0, 0, 0, 0), (27, .aload_n 0, 0, 0, 0, 0, 0, 0), (28, .getfield 9, 7, 2, 0, 113, 0, 0), (31, .iload_n 3, 0, 0, 0, 0, 0, 0), (32, .iaload, 0, 0, 0, 0, 0, 0), (33, .aload_n 0, 0, 0, 0, 0, 0, 0), (34, .getfield 15, 7, 3, 0, 114, 0, 0), (37, .iload_n 3, 0, 0, 0, 0, 0, 0), (38, .iaload, 0, 0, 0, 0, 0, 0), (39, .isub, 0, 0, 0, 0, 0, 0), (40, .aload_n 0, 0, 0, 0, 0, 0, 0), (41, .getfield 9, 7, 2, 0, 113, 0, 0), (44, .iload_n 2, 0, 0, 0, 0, 0, 0), (45, .iaload, 0, 0, 0, 0, 0, 0), (46, .aload_n 0, 0, 0, 0, 0, 0, 0), (47, .getfield 15, 7, 3, 0, 114, 0, 0), (50, .iload_n 2, 0, 0, 0, 0, 0, 0), (51, .iaload, 0, 0, 0, 0, 0, 0), (52, .isub, 0, 0, 0, 0, 0, 0), (53, .if_icmp .le 5, 58, 0, 0, 0, 0, 0), (56, .iload_n 3, 0, 0, 0, 0, 0, 0), (57, .istore_n 2, 0, 0, 0, 0, 0, 0), (58, .iinc 3 1, 0, 0, 0, 0, 1, 0), (61, .goto (-53), 8, 0, 0, 0, 0, 0), (64, .iload_n 2, 0, 0, 0, 0, 0, 0), (65, .ireturn, 0, 0, 0, 0, 0, 0)]
def cd_X7_leastRaise : List pm_R := [(0, .aload_n 0, 0, 0, 0, 0, 0, 0), (1, .invokevirtual 52, 55, 1, 7, 441, 0, 0), (4, .iconst 1, 0, 0, 0, 0, 1, 0), (5, .iload_n 1, 0, 0, 0, 0, 0, 0), (6, .ishl, 0, 0, 0, 0, 0, 0), (7, .istore_n 3, 0, 0, 0, 0, 0, 0), (8, .aload_n 0, 0, 0, 0, 0, 0, 0), (9, .iconst 0, 0, 0, 0, 0, 0, 0), (10, .iload_n 3, 0, 0, 0, 0, 0, 0), (11, .iconst 0, 0, 0, 0, 0, 0, 0), (12, .iload_n 2, 0, 0, 0, 0, 0, 0), (13, .invokevirtual 76, 54, 5, 7, 533, 0, 0), (16, .ifCond .ne 5, 21, 0, 0, 0, 0, 0), (19, .iconst (-1), 0, 0, 0, 0, -1, 0), (20, .ireturn, 0, 0, 0, 0, 0, 0), (21, .iconst 0, 0, 0, 0, 0, 0, 0), (22, .istore 4, 0, 0, 0, 0, 0, 0), (24, .iload 4, 0, 0, 0, 0, 0, 0), (26, .bipush 99, 0, 0, 0, 0, 99, 0), (28, .if_icmp .gt 24, 52, 0, 0, 0, 0, 0), (31, .aload_n 0, 0, 0, 0, 0, 0, 0), (32, .iload_n 3, 0, 0, 0, 0, 0, 0), (33, .iload_n 3, 0, 0, 0, 0, 0, 0), (34, .iload 4, 0, 0, 0, 0, 0, 0), (36, .iload_n 2, 0, 0, 0, 0, 0, 0), (37, .invokevirtual 76, 54, 5, 7, 533, 0, 0), (40, .ifCond .eq 6, 46, 0, 0, 0, 0, 0), (43, .iload 4, 0, 0, 0, 0, 0, 0), (45, .ireturn, 0, 0, 0, 0, 0, 0), (46, .iinc 4 1, 0, 0, 0, 0, 1, 0), (49, .goto (-25), 24, 0, 0, 0, 0, 0), (52, .iconst (-1), 0, 0, 0, 0, -1, 0), (53, .ireturn, 0, 0, 0, 0, 0, 0)]
def cd_X7_isProof : List pm_R := [(0, .iconst 1, 0, 0, 0, 0, 1, 0), (1, .istore 5, 0, 0, 0, 0, 0, 0), (3, .iload 5, 0, 0, 0, 0, 0, 0), (5, .aload_n 0, 0, 0, 0, 0, 0, 0), (6, .getfield 48, 7, 1, 0, 112, 0, 0), (9, .invokevirtual 65, 6, 1, 1, 469, 0, 0), (12, .if_icmp .gt 47, 59, 0, 0, 0, 0, 0), (15, .iload 5, 0, 0, 0, 0, 0, 0), (17, .iload_n 2, 0, 0, 0, 0, 0, 0), (18, .iand, 0, 0, 0, 0, 0, 0), (19, .iload_n 1, 0, 0, 0, 0, 0, 0), (20, .if_icmp .ne 33, 53, 0, 0, 0, 0, 0), (23, .aload_n 0, 0, 0, 0, 0, 0, 0), (24, .getfield 9, 7, 2, 0, 113, 0, 0), (27, .iload 5, 0, 0, 0, 0, 0, 0), (29, .iaload, 0, 0, 0, 0, 0, 0), (30, .iload_n 3, 0, 0, 0, 0, 0, 0), (31, .iadd, 0, 0, 0, 0, 0, 0), (32, .istore 6, 0, 0, 0, 0, 0, 0), (34, .iload 6, 0, 0, 0, 0, 0, 0), (36, .aload_n 0, 0, 0, 0, 0, 0, 0), (37, .getfield 44, 7, 0, 0, 111, 0, 0), (40, .iload 6, 0, 0, 0, 0, 0, 0), (42, .invokevirtual 80, 20, 2, 2, 447, 0, 0), (45, .isub, 0, 0, 0, 0, 0, 0), (46, .iload 4, 0, 0, 0, 0, 0, 0), (48, .if_icmp .le 5, 53, 0, 0, 0, 0, 0), (51, .iconst 0, 0, 0, 0, 0, 0, 0), (52, .ireturn, 0, 0, 0, 0, 0, 0), (53, .iinc 5 1, 0, 0, 0, 0, 1, 0), (56, .goto (-53), 3, 0, 0, 0, 0, 0), (59, .iconst 1, 0, 0, 0, 0, 1, 0), (60, .ireturn, 0, 0, 0, 0, 0, 0)]
def cd_X7_reckonBills : List pm_R := [(0, .aload_n 0, 0, 0, 0, 0, 0, 0), (1, .getfield 24, 7, 6, 1, 117, 0, 0), (4, .ifCond .eq 4, 8, 0, 0, 0, 0, 0), (7, .return_, 0, 0, 0, 0, 0, 0), (8, .iconst 0, 0, 0, 0, 0, 0, 0), (9, .istore_n 1, 0, 0, 0, 0, 0, 0), (10, .iload_n 1, 0, 0, 0, 0, 0, 0), (11, .aload_n 0, 0, 0, 0, 0, 0, 0), (12, .getfield 48, 7, 1, 0, 112, 0, 0), (15, .invokevirtual 85, 5, 1, 1, 445, 0, 0), (18, .if_icmp .ge 72, 90, 0, 0, 0, 0, 0), (21, .iconst 1, 0, 0, 0, 0, 1, 0), (22, .iload_n 1, 0, 0, 0, 0, 0, 0), (23, .ishl, 0, 0, 0, 0, 0, 0), (24, .istore_n 2, 0, 0, 0, 0, 0, 0), (25, .iconst 0, 0, 0, 0, 0, 0, 0), (26, .istore_n 3, 0, 0, 0, 0, 0, 0), (27, .iload_n 3, 0, 0, 0, 0, 0, 0), (28, .iload_n 2, 0, 0, 0, 0, 0, 0), (29, .if_icmp .ge 55, 84, 0, 0, 0, 0, 0), (32, .aload_n 0, 0, 0, 0, 0, 0, 0), (33, .getfield 9, 7, 2, 0, 113, 0, 0), (36, .iload_n 2, 0, 0, 0, 0, 0, 0), (37, .iload_n 3, 0, 0, 0, 0, 0, 0), (38, .iadd, 0, 0, 0, 0, 0, 0), (39, .aload_n 0, 0, 0, 0, 0, 0, 0), (40, .getfield 9, 7, 2, 0, 113, 0, 0), (43, .iload_n 3, 0, 0, 0, 0, 0, 0), (44, .iaload, 0, 0, 0, 0, 0, 0), (45, .aload_n 0, 0, 0, 0, 0, 0, 0), (46, .getfield 48, 7, 1, 0, 112, 0, 0), (49, .iload_n 1, 0, 0, 0, 0, 0, 0), (50, .invokevirtual 88, 9, 2, 1, 446, 0, 0), (53, .iadd, 0, 0, 0, 0, 0, 0), (54, .iastore, 0, 0, 0, 0, 0, 0), (55, .aload_n 0, 0, 0, 0, 0, 0, 0), (56, .getfield 15, 7, 3, 0, 114, 0, 0), (59, .iload_n 2, 0, 0, 0, 0, 0, 0), (60, .iload_n 3, 0, 0, 0, 0, 0, 0), (61, .iadd, 0, 0, 0, 0, 0, 0), (62, .aload_n 0, 0, 0, 0, 0, 0, 0), (63, .getfield 44, 7, 0, 0, 111, 0, 0), (66, .aload_n 0, 0, 0, 0, 0, 0, 0), (67, .getfield 9, 7, 2, 0, 113, 0, 0), (70, .iload_n 2, 0, 0, 0, 0, 0, 0), (71, .iload_n 3, 0, 0, 0, 0, 0, 0), (72, .iadd, 0, 0, 0, 0, 0, 0), (73, .iaload, 0, 0, 0, 0, 0, 0), (74, .invokevirtual 80, 20, 2, 2, 447, 0, 0), (77, .iastore, 0, 0, 0, 0, 0, 0), (78, .iinc 3 1, 0, 0, 0, 0, 1, 0), (81, .goto (-54), 27, 0, 0, 0, 0, 0), (84, .iinc 1 1, 0, 0, 0, 0, 1, 0), (87, .goto (-77), 10, 0, 0, 0, 0, 0), (90, .aload_n 0, 0, 0, 0, 0, 0, 0), (91, .iconst 1, 0, 0, 0, 0, 1, 0), (92, .putfield 24, 7, 6, 1, 117, 0, 0), (95, .return_, 0, 0, 0, 0, 0, 0)]
def cd_X7_reckonBought : List pm_R := [(0, .aload_n 0, 0, 0, 0, 0, 0, 0), (1, .getfield 28, 7, 7, 1, 118, 0, 0), (4, .ifCond .eq 4, 8, 0, 0, 0, 0, 0), (7, .return_, 0, 0, 0, 0, 0, 0), (8, .aload_n 0, 0, 0, 0, 0, 0, 0), (9, .invokevirtual 52, 55, 1, 7, 441, 0, 0), (12, .aload_n 0, 0, 0, 0, 0, 0, 0), (13, .aload_n 0, 0, 0, 0, 0, 0, 0), (14, .getfield 48, 7, 1, 0, 112, 0, 0), (17, .invokevirtual 91, 7, 1, 1, 464, 0, 0), (20, .ifCond .ne 7, 27, 0, 0, 0, 0, 0), (23, .iconst 0, 0, 0, 0, 0, 0, 0), (24, .goto 5, 29, 0, 0, 0, 0, 0), (27, .ldc 94, 0, 0, 0, 468, 2147483647, 0), (29, .putfield 31, 7, 8, 0, 119, 0, 0), (32, .aload_n 0, 0, 0, 0, 0, 0, 0), (33, .iconst 0, 0, 0, 0, 0, 0, 0), (34, .putfield 35, 7, 9, 0, 120, 0, 0), (37, .aload_n 0, 0, 0, 0, 0, 0, 0), (38, .iconst 0, 0, 0, 0, 0, 0, 0), (39, .putfield 38, 7, 10, 0, 121, 0, 0), (42, .aload_n 0, 0, 0, 0, 0, 0, 0), (43, .iconst 0, 0, 0, 0, 0, 0, 0), (44, .putfield 41, 7, 11, 0, 122, 0, 0), (47, .iconst 1, 0, 0, 0, 0, 1, 0), (48, .istore_n 1, 0, 0, 0, 0, 0, 0), (49, .iload_n 1, 0, 0, 0, 0, 0, 0), (50, .aload_n 0, 0, 0, 0, 0, 0, 0), (51, .getfield 48, 7, 1, 0, 112, 0, 0), (54, .invokevirtual 65, 6, 1, 1, 469, 0, 0), (57, .if_icmp .gt 42, 99, 0, 0, 0, 0, 0), (60, .aload_n 0, 0, 0, 0, 0, 0, 0), (61, .getfield 18, 7, 4, 0, 115, 0, 0), (64, .iload_n 1, 0, 0, 0, 0, 0, 0), (65, .aload_n 0, 0, 0, 0, 0, 0, 0), (66, .getfield 15, 7, 3, 0, 114, 0, 0), (69, .iload_n 1, 0, 0, 0, 0, 0, 0), (70, .iaload, 0, 0, 0, 0, 0, 0), (71, .aload_n 0, 0, 0, 0, 0, 0, 0), (72, .getfield 44, 7, 0, 0, 111, 0, 0), (75, .iconst 2, 0, 0, 0, 0, 2, 0), (76, .invokevirtual 95, 18, 2, 2, 470, 0, 0), (79, .iadd, 0, 0, 0, 0, 0, 0), (80, .iastore, 0, 0, 0, 0, 0, 0), (81, .aload_n 0, 0, 0, 0, 0, 0, 0), (82, .getfield 21, 7, 5, 0, 116, 0, 0), (85, .iload_n 1, 0, 0, 0, 0, 0, 0), (86, .aload_n 0, 0, 0, 0, 0, 0, 0), (87, .getfield 18, 7, 4, 0, 115, 0, 0), (90, .iload_n 1, 0, 0, 0, 0, 0, 0), (91, .iaload, 0, 0, 0, 0, 0, 0), (92, .iastore, 0, 0, 0, 0, 0, 0), (93, .iinc 1 1, 0, 0, 0, 0, 1, 0), (96, .goto (-47), 49, 0, 0, 0, 0, 0), (99, .aload_n 0, 0, 0, 0, 0, 0, 0), (100, .iconst 1, 0, 0, 0, 0, 1, 0), (101, .invokevirtual 98, 57, 2, 7, 471, 0, 0), (104, .iconst 2, 0, 0, 0, 0, 2, 0), (105, .istore_n 1, 0, 0, 0, 0, 0, 0), (106, .iload_n 1, 0, 0, 0, 0, 0, 0), (107, .aload_n 0, 0, 0, 0, 0, 0, 0), (108, .getfield 44, 7, 0, 0, 111, 0, 0), (111, .iconst 3, 0, 0, 0, 0, 3, 0), (112, .invokevirtual 95, 18, 2, 2, 470, 0, 0), (115, .if_icmp .gt 19, 134, 0, 0, 0, 0, 0), (118, .aload_n 0, 0, 0, 0, 0, 0, 0), (119, .iload_n 1, 0, 0, 0, 0, 0, 0), (120, .invokevirtual 102, 58, 2, 7, 484, 0, 0), (123, .aload_n 0, 0, 0, 0, 0, 0, 0), (124, .iload_n 1, 0, 0, 0, 0, 0, 0), (125, .invokevirtual 98, 57, 2, 7, 471, 0, 0), (128, .iinc 1 1, 0, 0, 0, 0, 1, 0), (131, .goto (-25), 106, 0, 0, 0, 0, 0), (134, .aload_n 0, 0, 0, 0, 0, 0, 0), (135, .iconst 1, 0, 0, 0, 0, 1, 0), (136, .putfield 28, 7, 7, 1, 118, 0, 0), (139, .return_, 0, 0, 0, 0, 0, 0)]
def cd_X7_takeBest : List pm_R := [(0, .aload_n 0, 0, 0, 0, 0, 0, 0), (1, .getfield 48, 7, 1, 0, 112, 0, 0), (4, .invokevirtual 91, 7, 1, 1, 464, 0, 0), (7, .istore_n 2, 0, 0, 0, 0, 0, 0), (8, .iconst 1, 0, 0, 0, 0, 1, 0), (9, .istore_n 3, 0, 0, 0, 0, 0, 0), (10, .iload_n 3, 0, 0, 0, 0, 0, 0), (11, .aload_n 0, 0, 0, 0, 0, 0, 0), (12, .getfield 48, 7, 1, 0, 112, 0, 0), (15, .invokevirtual 65, 6, 1, 1, 469, 0, 0), (18, .if_icmp .gt 74, 92, 0, 0, 0, 0, 0), (21, .iload_n 3, 0, 0, 0, 0, 0, 0), (22, .iload_n 2, 0, 0, 0, 0, 0, 0), (23, .iand, 0, 0, 0, 0, 0, 0), (24, .iload_n 2, 0, 0, 0, 0, 0, 0), (25, .if_icmp .ne 61, 86, 0, 0, 0, 0, 0), (28, .iload_n 3, 0, 0, 0, 0, 0, 0), (29, .invokestatic 71, 163, 1, 0, 475, 0, 0), (32, .iload_n 1, 0, 0, 0, 0, 0, 0), (33, .if_icmp .lt 53, 86, 0, 0, 0, 0, 0), (36, .aload_n 0, 0, 0, 0, 0, 0, 0), (37, .getfield 18, 7, 4, 0, 115, 0, 0), (40, .iload_n 3, 0, 0, 0, 0, 0, 0), (41, .iaload, 0, 0, 0, 0, 0, 0), (42, .aload_n 0, 0, 0, 0, 0, 0, 0), (43, .getfield 31, 7, 8, 0, 119, 0, 0), (46, .if_icmp .ge 23, 69, 0, 0, 0, 0, 0), (49, .aload_n 0, 0, 0, 0, 0, 0, 0), (50, .aload_n 0, 0, 0, 0, 0, 0, 0), (51, .getfield 18, 7, 4, 0, 115, 0, 0), (54, .iload_n 3, 0, 0, 0, 0, 0, 0), (55, .iaload, 0, 0, 0, 0, 0, 0), (56, .putfield 31, 7, 8, 0, 119, 0, 0), (59, .aload_n 0, 0, 0, 0, 0, 0, 0), (60, .iload_n 1, 0, 0, 0, 0, 0, 0), (61, .putfield 35, 7, 9, 0, 120, 0, 0), (64, .aload_n 0, 0, 0, 0, 0, 0, 0), (65, .iload_n 3, 0, 0, 0, 0, 0, 0), (66, .putfield 38, 7, 10, 0, 121, 0, 0), (69, .aload_n 0, 0, 0, 0, 0, 0, 0), (70, .aload_n 0, 0, 0, 0, 0, 0, 0), (71, .getfield 41, 7, 11, 0, 122, 0, 0), (74, .aload_n 0, 0, 0, 0, 0, 0, 0), (75, .getfield 21, 7, 5, 0, 116, 0, 0), (78, .iload_n 3, 0, 0, 0, 0, 0, 0), (79, .iaload, 0, 0, 0, 0, 0, 0), (80, .invokestatic 105, 483, 2, 3, 481, 0, 0), (83, .putfield 41, 7, 11, 0, 122, 0, 0), (86, .iinc 3 1, 0, 0, 0, 0, 1, 0), (89, .goto (-79), 10, 0, 0, 0, 0, 0), (92, .return_, 0, 0, 0, 0, 0, 0)]
def cd_X7_partOnceMore : List pm_R := [(0, .aload_n 0, 0, 0, 0, 0, 0, 0), (1, .getfield 48, 7, 1, 0, 112, 0, 0), (4, .invokevirtual 65, 6, 1, 1, 469, 0, 0), (7, .istore_n 2, 0, 0, 0, 0, 0, 0), (8, .iload_n 2, 0, 0, 0, 0, 0, 0), (9, .ifCond .le 23, 32, 0, 0, 0, 0, 0), (12, .iload_n 2, 0, 0, 0, 0, 0, 0), (13, .invokestatic 71, 163, 1, 0, 475, 0, 0), (16, .iload_n 1, 0, 0, 0, 0, 0, 0), (17, .if_icmp .lt 9, 26, 0, 0, 0, 0, 0), (20, .aload_n 0, 0, 0, 0, 0, 0, 0), (21, .iload_n 2, 0, 0, 0, 0, 0, 0), (22, .iload_n 1, 0, 0, 0, 0, 0, 0), (23, .invokevirtual 111, 59, 3, 7, 488, 0, 0), (26, .iinc 2 (-1), 0, 0, 0, 0, -1, 0), (29, .goto (-21), 8, 0, 0, 0, 0, 0), (32, .return_, 0, 0, 0, 0, 0, 0)]
def cd_X7_partSet : List pm_R := [(0, .iload_n 1, 0, 0, 0, 0, 0, 0), (1, .iload_n 1, 0, 0, 0, 0, 0, 0), (2, .iconst 1, 0, 0, 0, 0, 1, 0), (3, .isub, 0, 0, 0, 0, 0, 0), (4, .iand, 0, 0, 0, 0, 0, 0), (5, .istore_n 3, 0, 0, 0, 0, 0, 0), (6, .ldc 94, 0, 0, 0, 468, 2147483647, 0), (8, .istore 4, 0, 0, 0, 0, 0, 0), (10, .iconst 0, 0, 0, 0, 0, 0, 0), (11, .istore 5, 0, 0, 0, 0, 0, 0), (13, .iload_n 3, 0, 0, 0, 0, 0, 0), (14, .istore 6, 0, 0, 0, 0, 0, 0), (16, .iload 6, 0, 0, 0, 0, 0, 0), (18, .ifCond .le 79, 97, 0, 0, 0, 0, 0), (21, .iload 6, 0, 0, 0, 0, 0, 0), (23, .invokestatic 71, 163, 1, 0, 475, 0, 0), (26, .iload_n 2, 0, 0, 0, 0, 0, 0), (27, .iconst 1, 0, 0, 0, 0, 1, 0), (28, .isub, 0, 0, 0, 0, 0, 0), (29, .if_icmp .lt 57, 86, 0, 0, 0, 0, 0), (32, .aload_n 0, 0, 0, 0, 0, 0, 0), (33, .getfield 15, 7, 3, 0, 114, 0, 0), (36, .iload_n 1, 0, 0, 0, 0, 0, 0), (37, .iload 6, 0, 0, 0, 0, 0, 0), (39, .ixor, 0, 0, 0, 0, 0, 0), (40, .iaload, 0, 0, 0, 0, 0, 0), (41, .aload_n 0, 0, 0, 0, 0, 0, 0), (42, .getfield 44, 7, 0, 0, 111, 0, 0), (45, .iconst 2, 0, 0, 0, 0, 2, 0), (46, .invokevirtual 95, 18, 2, 2, 470, 0, 0), (49, .iadd, 0, 0, 0, 0, 0, 0), (50, .istore 7, 0, 0, 0, 0, 0, 0), (52, .iload 4, 0, 0, 0, 0, 0, 0), (54, .iload 7, 0, 0, 0, 0, 0, 0), (56, .aload_n 0, 0, 0, 0, 0, 0, 0), (57, .getfield 18, 7, 4, 0, 115, 0, 0), (60, .iload 6, 0, 0, 0, 0, 0, 0), (62, .iaload, 0, 0, 0, 0, 0, 0), (63, .iadd, 0, 0, 0, 0, 0, 0), (64, .invokestatic 115, 413, 2, 4, 492, 0, 0), (67, .istore 4, 0, 0, 0, 0, 0, 0), (69, .iload 5, 0, 0, 0, 0, 0, 0), (71, .iload 7, 0, 0, 0, 0, 0, 0), (73, .aload_n 0, 0, 0, 0, 0, 0, 0), (74, .getfield 21, 7, 5, 0, 116, 0, 0), (77, .iload 6, 0, 0, 0, 0, 0, 0), (79, .iaload, 0, 0, 0, 0, 0, 0), (80, .iadd, 0, 0, 0, 0, 0, 0), (81, .invokestatic 105, 483, 2, 3, 481, 0, 0), (84, .istore 5, 0, 0, 0, 0, 0, 0), (86, .iload 6, 0, 0, 0, 0, 0, 0), (88, .iconst 1, 0, 0, 0, 0, 1, 0), (89, .isub, 0, 0, 0, 0, 0, 0), (90, .iload_n 3, 0, 0, 0, 0, 0, 0), (91, .iand, 0, 0, 0, 0, 0, 0), (92, .istore 6, 0, 0, 0, 0, 0, 0), (94, .goto (-78), 16, 0, 0, 0, 0, 0), (97, .aload_n 0, 0, 0, 0, 0, 0, 0), (98, .getfield 18, 7, 4, 0, 115, 0, 0), (101, .iload_n 1, 0, 0, 0, 0, 0, 0), (102, .iload 4, 0, 0, 0, 0, 0, 0), (104, .iastore, 0, 0, 0, 0, 0, 0), (105, .aload_n 0, 0, 0, 0, 0, 0, 0), (106, .getfield 21, 7, 5, 0, 116, 0, 0), (109, .iload_n 1, 0, 0, 0, 0, 0, 0), (110, .iload 5, 0, 0, 0, 0, 0, 0), (112, .iastore, 0, 0, 0, 0, 0, 0), (113, .return_, 0, 0, 0, 0, 0, 0)]
def cd_X8_playDownTo : List pm_R := [(0, .iload_n 3, 0, 0, 0, 0, 0, 0), (1, .istore 4, 0, 0, 0, 0, 0, 0), (3, .iload 4, 0, 0, 0, 0, 0, 0), (5, .iload_n 3, 0, 0, 0, 0, 0, 0), (6, .bipush 9, 0, 0, 0, 0, 9, 0), (8, .iadd, 0, 0, 0, 0, 0, 0), (9, .if_icmp .ge 39, 48, 0, 0, 0, 0, 0), (12, .aload_n 0, 0, 0, 0, 0, 0, 0), (13, .getfield 9, 8, 1, 0, 222, 0, 0), (16, .iload 4, 0, 0, 0, 0, 0, 0), (18, .aload_n 0, 0, 0, 0, 0, 0, 0), (19, .getfield 18, 8, 0, 0, 221, 0, 0), (22, .iload 4, 0, 0, 0, 0, 0, 0), (24, .invokevirtual 22, 20, 2, 2, 637, 0, 0), (27, .iastore, 0, 0, 0, 0, 0, 0), (28, .aload_n 0, 0, 0, 0, 0, 0, 0), (29, .getfield 15, 8, 2, 0, 223, 0, 0), (32, .iload 4, 0, 0, 0, 0, 0, 0), (34, .aload_n 0, 0, 0, 0, 0, 0, 0), (35, .getfield 9, 8, 1, 0, 222, 0, 0), (38, .iload 4, 0, 0, 0, 0, 0, 0), (40, .iaload, 0, 0, 0, 0, 0, 0), (41, .iastore, 0, 0, 0, 0, 0, 0), (42, .iinc 4 1, 0, 0, 0, 0, 1, 0), (45, .goto (-42), 3, 0, 0, 0, 0, 0), (48, .iload_n 3, 0, 0, 0, 0, 0, 0), (49, .iconst 1, 0, 0, 0, 0, 1, 0), (50, .isub, 0, 0, 0, 0, 0, 0), (51, .istore 4, 0, 0, 0, 0, 0, 0), (53, .iload 4, 0, 0, 0, 0, 0, 0), (55, .iload_n 1, 0, 0, 0, 0, 0, 0), (56, .if_icmp .lt 61, 117, 0, 0, 0, 0, 0), (59, .aload_n 0, 0, 0, 0, 0, 0, 0), (60, .getfield 9, 8, 1, 0, 222, 0, 0), (63, .iload 4, 0, 0, 0, 0, 0, 0), (65, .aload_n 0, 0, 0, 0, 0, 0, 0), (66, .getfield 15, 8, 2, 0, 223, 0, 0), (69, .iload 4, 0, 0, 0, 0, 0, 0), (71, .aload_n 0, 0, 0, 0, 0, 0, 0), (72, .getfield 15, 8, 2, 0, 223, 0, 0), (75, .iload 4, 0, 0, 0, 0, 0, 0), (77, .iload_n 2, 0, 0, 0, 0, 0, 0), (78, .iconst 0, 0, 0, 0, 0, 0, 0), (79, .invokestatic 28, 63, 4, 0, 638, 0, 0), (82, .iadd, 0, 0, 0, 0, 0, 0), (83, .iaload, 0, 0, 0, 0, 0, 0), (84, .iastore, 0, 0, 0, 0, 0, 0), (85, .aload_n 0, 0, 0, 0, 0, 0, 0), (86, .getfield 15, 8, 2, 0, 223, 0, 0), (89, .iload 4, 0, 0, 0, 0, 0, 0), (91, .aload_n 0, 0, 0, 0, 0, 0, 0), (92, .getfield 9, 8, 1, 0, 222, 0, 0), (95, .iload 4, 0, 0, 0, 0, 0, 0), (97, .aload_n 0, 0, 0, 0, 0, 0, 0), (98, .getfield 9, 8, 1, 0, 222, 0, 0), (101, .iload 4, 0, 0, 0, 0, 0, 0), (103, .iload_n 2, 0, 0, 0, 0, 0, 0), (104, .iconst 1, 0, 0, 0, 0, 1, 0), (105, .invokestatic 28, 63, 4, 0, 638, 0, 0), (108, .iadd, 0, 0, 0, 0, 0, 0), (109, .iaload, 0, 0, 0, 0, 0, 0), (110, .iastore, 0, 0, 0, 0, 0, 0), (111, .iinc 4 (-1), 0, 0, 0, 0, -1, 0), (114, .goto (-61), 53, 0, 0, 0, 0, 0), (117, .return_, 0, 0, 0, 0, 0, 0)]
def cd_X8_outcomeFrom : List pm_R := [(0, .aload_n 0, 0, 0, 0, 0, 0, 0), (1, .getfield 9, 8, 1, 0, 222, 0, 0), (4, .iload_n 1, 0, 0, 0, 0, 0, 0), (5, .iaload, 0, 0, 0, 0, 0, 0), (6, .ireturn, 0, 0, 0, 0, 0, 0)]
def cd_X8_firstAmount : List pm_R := [(0, .aload_n 0, 0, 0, 0, 0, 0, 0), (1, .getfield 15, 8, 2, 0, 223, 0, 0), (4, .iload_n 1, 0, 0, 0, 0, 0, 0), (5, .iload_n 2, 0, 0, 0, 0, 0, 0), (6, .iconst 0, 0, 0, 0, 0, 0, 0), (7, .invokestatic 28, 63, 4, 0, 638, 0, 0), (10, .ireturn, 0, 0, 0, 0, 0, 0)]
def cd_X8_bestAmount : List pm_R := [(0, .iconst 0, 0, 0, 0, 0, 0, 0), (1, .istore 4, 0, 0, 0, 0, 0, 0), (3, .iconst 1, 0, 0, 0, 0, 1, 0), (4, .istore 5, 0, 0, 0, 0, 0, 0), (6, .iload 5, 0, 0, 0, 0, 0, 0), (8, .bipush 9, 0, 0, 0, 0, 9, 0), (10, .if_icmp .gt 81, 91, 0, 0, 0, 0, 0), (13, .iload_n 2, 0, 0, 0, 0, 0, 0), (14, .iconst 1, 0, 0, 0, 0, 1, 0), (15, .iload 5, 0, 0, 0, 0, 0, 0), (17, .ishl, 0, 0, 0, 0, 0, 0), (18, .iand, 0, 0, 0, 0, 0, 0), (19, .ifCond .eq 66, 85, 0, 0, 0, 0, 0), (22, .aload_n 0, 0, 0, 0, 0, 0, 0), (23, .iload_n 1, 0, 0, 0, 0, 0, 0), (24, .iload 5, 0, 0, 0, 0, 0, 0), (26, .iadd, 0, 0, 0, 0, 0, 0), (27, .iaload, 0, 0, 0, 0, 0, 0), (28, .istore 6, 0, 0, 0, 0, 0, 0), (30, .iload_n 3, 0, 0, 0, 0, 0, 0), (31, .ifCond .eq 22, 53, 0, 0, 0, 0, 0), (34, .iload 6, 0, 0, 0, 0, 0, 0), (36, .aload_n 0, 0, 0, 0, 0, 0, 0), (37, .iload_n 1, 0, 0, 0, 0, 0, 0), (38, .iload 4, 0, 0, 0, 0, 0, 0), (40, .iadd, 0, 0, 0, 0, 0, 0), (41, .iaload, 0, 0, 0, 0, 0, 0), (42, .if_icmp .le 7, 49, 0, 0, 0, 0, 0), (45, .iconst 1, 0, 0, 0, 0, 1, 0), (46, .goto 23, 69, 0, 0, 0, 0, 0), (49, .iconst 0, 0, 0, 0, 0, 0, 0), (50, .goto 19, 69, 0, 0, 0, 0, 0), (53, .iload 6, 0, 0, 0, 0, 0, 0), (55, .aload_n 0, 0, 0, 0, 0, 0, 0), (56, .iload_n 1, 0, 0, 0, 0, 0, 0), (57, .iload 4, 0, 0, 0, 0, 0, 0), (59, .iadd, 0, 0, 0, 0, 0, 0), (60, .iaload, 0, 0, 0, 0, 0, 0), (61, .if_icmp .ge 7, 68, 0, 0, 0, 0, 0), (64, .iconst 1, 0, 0, 0, 0, 1, 0), (65, .goto 4, 69, 0, 0, 0, 0, 0), (68, .iconst 0, 0, 0, 0, 0, 0, 0), (69, .istore 7, 0, 0, 0, 0, 0, 0), (71, .iload 4, 0, 0, 0, 0, 0, 0), (73, .ifCond .eq 8, 81, 0, 0, 0, 0, 0), (76, .iload 7, 0, 0, 0, 0, 0, 0), (78, .ifCond .eq 7, 85, 0, 0, 0, 0, 0), (81, .iload 5, 0, 0, 0, 0, 0, 0), (83, .istore 4, 0, 0, 0, 0, 0, 0), (85, .iinc 5 1, 0, 0, 0, 0, 1, 0), (88, .goto (-82), 6, 0, 0, 0, 0, 0), (91, .iload 4, 0, 0, 0, 0, 0, 0), (93, .ireturn, 0, 0, 0, 0, 0, 0)]
def cd_X9_type : List pm_R := [(0, .iload_n 1, 0, 0, 0, 0, 0, 0), (1, .iconst 0, 0, 0, 0, 0, 0, 0), (2, .sipush 255, 0, 0, 0, 0, 255, 0), (5, .invokestatic 84, 99, 3, 0, 286, 0, 0), (8, .ifCond .ne 6, 14, 0, 0, 0, 0, 0), (11, .bipush (-2), 0, 0, 0, 0, -2, 0), (13, .ireturn, 0, 0, 0, 0, 0, 0), (14, .aload_n 0, 0, 0, 0, 0, 0, 0), (15, .getfield 19, 9, 1, 0, 249, 0, 0), (18, .invokevirtual 88, 4, 1, 1, 289, 0, 0), (21, .bipush 50, 0, 0, 0, 0, 50, 0), (23, .if_icmp .lt 6, 29, 0, 0, 0, 0, 0), (26, .bipush (-4), 0, 0, 0, 0, -4, 0), (28, .ireturn, 0, 0, 0, 0, 0, 0), (29, .aload_n 0, 0, 0, 0, 0, 0, 0), (30, .getfield 19, 9, 1, 0, 249, 0, 0), (33, .iload_n 1, 0, 0, 0, 0, 0, 0), (34, .invokevirtual 92, 11, 2, 1, 293, 0, 0), (37, .aload_n 0, 0, 0, 0, 0, 0, 0), (38, .getfield 28, 9, 2, 0, 250, 0, 0), (41, .invokevirtual 96, 44, 1, 7, 317, 0, 0), (44, .aload_n 0, 0, 0, 0, 0, 0, 0), (45, .getfield 19, 9, 1, 0, 249, 0, 0), (48, .invokevirtual 88, 4, 1, 1, 289, 0, 0), (51, .ireturn, 0, 0, 0, 0, 0, 0)]
def cd_X9_wipe : List pm_R := [(0, .aload_n 0, 0, 0, 0, 0, 0, 0), (1, .getfield 19, 9, 1, 0, 249, 0, 0), (4, .invokevirtual 88, 4, 1, 1, 289, 0, 0), (7, .istore_n 1, 0, 0, 0, 0, 0, 0), (8, .aload_n 0, 0, 0, 0, 0, 0, 0), (9, .getfield 19, 9, 1, 0, 249, 0, 0), (12, .invokevirtual 99, 12, 1, 1, 325, 0, 0), (15, .aload_n 0, 0, 0, 0, 0, 0, 0), (16, .getfield 28, 9, 2, 0, 250, 0, 0), (19, .invokevirtual 96, 44, 1, 7, 317, 0, 0), (22, .iload_n 1, 0, 0, 0, 0, 0, 0), (23, .ireturn, 0, 0, 0, 0, 0, 0)]
def cd_X9_fault : List pm_R := [(0, .aload_n 0, 0, 0, 0, 0, 0, 0), (1, .getfield 19, 9, 1, 0, 249, 0, 0), (4, .invokevirtual 102, 8, 1, 1, 333, 0, 0), (7, .ireturn, 0, 0, 0, 0, 0, 0)]
def cd_X9_good : List pm_R := [(0, .aload_n 0, 0, 0, 0, 0, 0, 0), (1, .iload_n 1, 0, 0, 0, 0, 0, 0), (2, .invokevirtual 105, 94, 2, 9, 341, 0, 0), (5, .ifCond .ne 6, 11, 0, 0, 0, 0, 0), (8, .bipush (-2), 0, 0, 0, 0, -2, 0), (10, .ireturn, 0, 0, 0, 0, 0, 0), (11, .iload_n 2, 0, 0, 0, 0, 0, 0), (12, .tableswitch 63 0 2 #[28, 37, 54], 28, 0, 0, 0, 0, 0), (40, .aload_n 0, 0, 0, 0, 0, 0, 0), (41, .getfield 19, 9, 1, 0, 249, 0, 0), (44, .iload_n 1, 0, 0, 0, 0, 0, 0), (45, .invokevirtual 109, 9, 2, 1, 349, 0, 0), (48, .ireturn, 0, 0, 0, 0, 0, 0), (49, .aload_n 0, 0, 0, 0, 0, 0, 0), (50, .getfield 19, 9, 1, 0, 249, 0, 0), (53, .iload_n 1, 0, 0, 0, 0, 0, 0), (54, .invokevirtual 113, 10, 2, 1, 353, 0, 0), (57, .ifCond .eq 7, 64, 0, 0, 0, 0, 0), (60, .iconst 1, 0, 0, 0, 0, 1, 0), (61, .goto 4, 65, 0, 0, 0, 0, 0), (64, .iconst 0, 0, 0, 0, 0, 0, 0), (65, .ireturn, 0, 0, 0, 0, 0, 0), (66, .aload_n 0, 0, 0, 0, 0, 0, 0), (67, .getfield 35, 9, 3, 0, 251, 0, 0), (70, .iload_n 1, 0, 0, 0, 0, 0, 0), (71, .invokevirtual 116, 24, 2, 4, 357, 0, 0), (74, .ireturn, 0, 0, 0, 0, 0, 0), (75, .bipush (-2), 0, 0, 0, 0, -2, 0), (77, .ireturn, 0, 0, 0, 0, 0, 0)]
def cd_X9_set : List pm_R := [(0, .iload_n 1, 0, 0, 0, 0, 0, 0), (1, .iconst 0, 0, 0, 0, 0, 0, 0), (2, .iconst 3, 0, 0, 0, 0, 3, 0), (3, .invokestatic 84, 99, 3, 0, 286, 0, 0), (6, .ifCond .eq 20, 26, 0, 0, 0, 0, 0), (9, .iload_n 2, 0, 0, 0, 0, 0, 0), (10, .getstatic 119, 49, 0, 0, 365, 0, 0), (13, .iload_n 1, 0, 0, 0, 0, 0, 0), (14, .iaload, 0, 0, 0, 0, 0, 0), (15, .getstatic 122, 50, 1, 0, 367, 0, 0), (18, .iload_n 1, 0, 0, 0, 0, 0, 0), (19, .iaload, 0, 0, 0, 0, 0, 0), (20, .invokestatic 84, 99, 3, 0, 286, 0, 0), (23, .ifCond .ne 6, 29, 0, 0, 0, 0, 0), (26, .bipush (-2), 0, 0, 0, 0, -2, 0), (28, .ireturn, 0, 0, 0, 0, 0, 0), (29, .aload_n 0, 0, 0, 0, 0, 0, 0), (30, .getfield 12, 9, 0, 0, 248, 0, 0), (33, .iload_n 1, 0, 0, 0, 0, 0, 0), (34, .invokevirtual 125, 18, 2, 2, 369, 0, 0), (37, .istore_n 3, 0, 0, 0, 0, 0, 0), (38, .aload_n 0, 0, 0, 0, 0, 0, 0), (39, .getfield 12, 9, 0, 0, 248, 0, 0), (42, .iload_n 1, 0, 0, 0, 0, 0, 0), (43, .iload_n 2, 0, 0, 0, 0, 0, 0), (44, .invokevirtual 128, 19, 3, 2, 373, 0, 0), (47, .aload_n 0, 0, 0, 0, 0, 0, 0), (48, .getfield 28, 9, 2, 0, 250, 0, 0), (51, .invokevirtual 96, 44, 1, 7, 317, 0, 0), (54, .aload_n 0, 0, 0, 0, 0, 0, 0), (55, .getfield 51, 9, 5, 0, 253, 0, 0), (58, .invokevirtual 132, 0, 1, 0, 377, 0, 0), (61, .iload_n 3, 0, 0, 0, 0, 0, 0), (62, .ireturn, 0, 0, 0, 0, 0, 0)]
def cd_X9_partner : List pm_R := [(0, .iload_n 1, 0, 0, 0, 0, 0, 0), (1, .iconst 0, 0, 0, 0, 0, 0, 0), (2, .bipush 7, 0, 0, 0, 0, 7, 0), (4, .invokestatic 84, 99, 3, 0, 286, 0, 0), (7, .ifCond .eq 10, 17, 0, 0, 0, 0, 0), (10, .iload_n 2, 0, 0, 0, 0, 0, 0), (11, .invokestatic 133, 95, 1, 0, 385, 0, 0), (14, .ifCond .ne 6, 20, 0, 0, 0, 0, 0), (17, .bipush (-2), 0, 0, 0, 0, -2, 0), (19, .ireturn, 0, 0, 0, 0, 0, 0), (20, .aload_n 0, 0, 0, 0, 0, 0, 0), (21, .getfield 35, 9, 3, 0, 251, 0, 0), (24, .iload_n 1, 0, 0, 0, 0, 0, 0), (25, .invokevirtual 116, 24, 2, 4, 357, 0, 0), (28, .istore_n 3, 0, 0, 0, 0, 0, 0), (29, .aload_n 0, 0, 0, 0, 0, 0, 0), (30, .getfield 35, 9, 3, 0, 251, 0, 0), (33, .iload_n 1, 0, 0, 0, 0, 0, 0), (34, .iload_n 2, 0, 0, 0, 0, 0, 0), (35, .invokevirtual 136, 25, 3, 4, 388, 0, 0), (38, .iload_n 3, 0, 0, 0, 0, 0, 0), (39, .ireturn, 0, 0, 0, 0, 0, 0)]
def cd_X9_read : List pm_R := [(0, .iload_n 1, 0, 0, 0, 0, 0, 0), (1, .invokestatic 139, 97, 1, 0, 396, 0, 0), (4, .ifCond .ne 6, 10, 0, 0, 0, 0, 0), (7, .bipush (-2), 0, 0, 0, 0, -2, 0), (9, .ireturn, 0, 0, 0, 0, 0, 0), (10, .aload_n 0, 0, 0, 0, 0, 0, 0), (11, .getfield 72, 9, 8, 0, 256, 0, 0), (14, .iload_n 1, 0, 0, 0, 0, 0, 0), (15, .aaload, 0, 0, 0, 0, 0, 0), (16, .astore_n 2, 0, 0, 0, 0, 0, 0), (17, .aload_n 2, 0, 0, 0, 0, 0, 0), (18, .invokevirtual 142, 33, 1, 6, 399, 0, 0), (21, .ifCond .eq 9, 30, 0, 0, 0, 0, 0), (24, .aload_n 0, 0, 0, 0, 0, 0, 0), (25, .iconst 1, 0, 0, 0, 0, 1, 0), (26, .invokevirtual 146, 93, 2, 9, 403, 0, 0), (29, .ireturn, 0, 0, 0, 0, 0, 0), (30, .aload_n 2, 0, 0, 0, 0, 0, 0), (31, .invokevirtual 149, 35, 1, 6, 407, 0, 0), (34, .bipush 8, 0, 0, 0, 0, 8, 0), (36, .invokestatic 152, 413, 2, 4, 411, 0, 0), (39, .istore_n 3, 0, 0, 0, 0, 0, 0), (40, .iconst 0, 0, 0, 0, 0, 0, 0), (41, .istore 4, 0, 0, 0, 0, 0, 0), (43, .iload 4, 0, 0, 0, 0, 0, 0), (45, .iload_n 3, 0, 0, 0, 0, 0, 0), (46, .if_icmp .ge 36, 82, 0, 0, 0, 0, 0), (49, .aload_n 2, 0, 0, 0, 0, 0, 0), (50, .iload 4, 0, 0, 0, 0, 0, 0), (52, .invokevirtual 158, 36, 2, 6, 414, 0, 0), (55, .invokestatic 133, 95, 1, 0, 385, 0, 0), (58, .ifCond .eq 24, 82, 0, 0, 0, 0, 0), (61, .aload_n 0, 0, 0, 0, 0, 0, 0), (62, .getfield 35, 9, 3, 0, 251, 0, 0), (65, .iload 4, 0, 0, 0, 0, 0, 0), (67, .aload_n 2, 0, 0, 0, 0, 0, 0), (68, .iload 4, 0, 0, 0, 0, 0, 0), (70, .invokevirtual 158, 36, 2, 6, 414, 0, 0), (73, .invokevirtual 136, 25, 3, 4, 388, 0, 0), (76, .iinc 4 1, 0, 0, 0, 0, 1, 0), (79, .goto (-36), 43, 0, 0, 0, 0, 0), (82, .iload 4, 0, 0, 0, 0, 0, 0), (84, .ireturn, 0, 0, 0, 0, 0, 0)]
def cd_X9_paid : List pm_R := [(0, .iload_n 1, 0, 0, 0, 0, 0, 0), (1, .invokestatic 161, 96, 1, 0, 422, 0, 0), (4, .ifCond .eq 14, 18, 0, 0, 0, 0, 0), (7, .aload_n 0, 0, 0, 0, 0, 0, 0), (8, .getfield 12, 9, 0, 0, 248, 0, 0), (11, .iload_n 1, 0, 0, 0, 0, 0, 0), (12, .invokevirtual 164, 20, 2, 2, 425, 0, 0), (15, .goto 5, 20, 0, 0, 0, 0, 0), (18, .bipush (-2), 0, 0, 0, 0, -2, 0), (20, .ireturn, 0, 0, 0, 0, 0, 0)]
def cd_X9_bill : List pm_R := [(0, .iload_n 1, 0, 0, 0, 0, 0, 0), (1, .iconst 1, 0, 0, 0, 0, 1, 0), (2, .aload_n 0, 0, 0, 0, 0, 0, 0), (3, .getfield 19, 9, 1, 0, 249, 0, 0), (6, .invokevirtual 167, 6, 1, 1, 433, 0, 0), (9, .invokestatic 84, 99, 3, 0, 286, 0, 0), (12, .ifCond .ne 6, 18, 0, 0, 0, 0, 0), (15, .bipush (-2), 0, 0, 0, 0, -2, 0), (17, .ireturn, 0, 0, 0, 0, 0, 0), (18, .iload_n 2, 0, 0, 0, 0, 0, 0), (19, .lookupswitch 43 #[(0, 25), (1, 34)], 25, 0, 0, 0, 0, 0), (44, .aload_n 0, 0, 0, 0, 0, 0, 0), (45, .getfield 28, 9, 2, 0, 250, 0, 0), (48, .iload_n 1, 0, 0, 0, 0, 0, 0), (49, .invokevirtual 170, 45, 2, 7, 437, 0, 0), (52, .ireturn, 0, 0, 0, 0, 0, 0), (53, .aload_n 0, 0, 0, 0, 0, 0, 0), (54, .getfield 28, 9, 2, 0, 250, 0, 0), (57, .iload_n 1, 0, 0, 0, 0, 0, 0), (58, .invokevirtual 173, 46, 2, 7, 448, 0, 0), (61, .ireturn, 0, 0, 0, 0, 0, 0), (62, .bipush (-2), 0, 0, 0, 0, -2, 0), (64, .ireturn, 0, 0, 0, 0, 0, 0)]
def cd_X9_bought : List pm_R := [(0, .iload_n 1, 0, 0, 0, 0, 0, 0), (1, .tableswitch 63 0 3 #[31, 39, 47, 55], 31, 0, 0, 0, 0, 0), (32, .aload_n 0, 0, 0, 0, 0, 0, 0), (33, .getfield 28, 9, 2, 0, 250, 0, 0), (36, .invokevirtual 176, 48, 1, 7, 456, 0, 0), (39, .ireturn, 0, 0, 0, 0, 0, 0), (40, .aload_n 0, 0, 0, 0, 0, 0, 0), (41, .getfield 28, 9, 2, 0, 250, 0, 0), (44, .invokevirtual 179, 49, 1, 7, 493, 0, 0), (47, .ireturn, 0, 0, 0, 0, 0, 0), (48, .aload_n 0, 0, 0, 0, 0, 0, 0), (49, .getfield 28, 9, 2, 0, 250, 0, 0), (52, .invokevirtual 182, 50, 1, 7, 497, 0, 0), (55, .ireturn, 0, 0, 0, 0, 0, 0), (56, .aload_n 0, 0, 0, 0, 0, 0, 0), (57, .getfield 28, 9, 2, 0, 250, 0, 0), (60, .invokevirtual 185, 51, 1, 7, 501, 0, 0), (63, .ireturn, 0, 0, 0, 0, 0, 0), (64, .bipush (-2), 0, 0, 0, 0, -2, 0), (66, .ireturn, 0, 0, 0, 0, 0, 0)]
def cd_X9_added : List pm_R := [(0, .iload_n 1, 0, 0, 0, 0, 0, 0), (1, .invokestatic 161, 96, 1, 0, 422, 0, 0), (4, .ifCond .ne 6, 10, 0, 0, 0, 0, 0), (7, .bipush (-2), 0, 0, 0, 0, -2, 0), (9, .ireturn, 0, 0, 0, 0, 0, 0), (10, .iconst 0, 0, 0, 0, 0, 0, 0), (11, .istore_n 2, 0, 0, 0, 0, 0, 0), (12, .aload_n 0, 0, 0, 0, 0, 0, 0), (13, .getfield 12, 9, 0, 0, 248, 0, 0), (16, .iload_n 1, 0, 0, 0, 0, 0, 0), (17, .invokevirtual 164, 20, 2, 2, 425, 0, 0), (20, .istore_n 3, 0, 0, 0, 0, 0, 0), (21, .iconst 1, 0, 0, 0, 0, 1, 0), (22, .istore 4, 0, 0, 0, 0, 0, 0), (24, .iload 4, 0, 0, 0, 0, 0, 0), (26, .bipush 99, 0, 0, 0, 0, 99, 0), (28, .if_icmp .gt 34, 62, 0, 0, 0, 0, 0), (31, .aload_n 0, 0, 0, 0, 0, 0, 0), (32, .getfield 12, 9, 0, 0, 248, 0, 0), (35, .iload_n 1, 0, 0, 0, 0, 0, 0), (36, .iload 4, 0, 0, 0, 0, 0, 0), (38, .iadd, 0, 0, 0, 0, 0, 0), (39, .invokevirtual 164, 20, 2, 2, 425, 0, 0), (42, .istore 5, 0, 0, 0, 0, 0, 0), (44, .iload 5, 0, 0, 0, 0, 0, 0), (46, .iload_n 3, 0, 0, 0, 0, 0, 0), (47, .if_icmp .ge 9, 56, 0, 0, 0, 0, 0), (50, .iload 5, 0, 0, 0, 0, 0, 0), (52, .istore_n 3, 0, 0, 0, 0, 0, 0), (53, .iload 4, 0, 0, 0, 0, 0, 0), (55, .istore_n 2, 0, 0, 0, 0, 0, 0), (56, .iinc 4 1, 0, 0, 0, 0, 1, 0), (59, .goto (-35), 24, 0, 0, 0, 0, 0), (62, .iload_n 2, 0, 0, 0, 0, 0, 0), (63, .ireturn, 0, 0, 0, 0, 0, 0)]
def cd_X9_proof : List pm_R := [(0, .iload_n 1, 0, 0, 0, 0, 0, 0), (1, .iconst 1, 0, 0, 0, 0, 1, 0), (2, .bipush 8, 0, 0, 0, 0, 8, 0), (4, .invokestatic 84, 99, 3, 0, 286, 0, 0), (7, .ifCond .eq 12, 19, 0, 0, 0, 0, 0), (10, .iload_n 2, 0, 0, 0, 0, 0, 0), (11, .iconst 0, 0, 0, 0, 0, 0, 0), (12, .iconst 1, 0, 0, 0, 0, 1, 0), (13, .invokestatic 84, 99, 3, 0, 286, 0, 0), (16, .ifCond .ne 6, 22, 0, 0, 0, 0, 0), (19, .ldc 188, 0, 0, 0, 513, -100002, 0), (21, .ireturn, 0, 0, 0, 0, 0, 0), (22, .aload_n 0, 0, 0, 0, 0, 0, 0), (23, .getfield 19, 9, 1, 0, 249, 0, 0), (26, .invokevirtual 189, 5, 1, 1, 345, 0, 0), (29, .ifCond .ne 6, 35, 0, 0, 0, 0, 0), (32, .ldc 190, 0, 0, 0, 514, -100003, 0), (34, .ireturn, 0, 0, 0, 0, 0, 0), (35, .aload_n 0, 0, 0, 0, 0, 0, 0), (36, .getfield 28, 9, 2, 0, 250, 0, 0), (39, .iload_n 1, 0, 0, 0, 0, 0, 0), (40, .invokevirtual 191, 52, 2, 7, 515, 0, 0), (43, .istore_n 3, 0, 0, 0, 0, 0, 0), (44, .iload_n 2, 0, 0, 0, 0, 0, 0), (45, .ifCond .ne 14, 59, 0, 0, 0, 0, 0), (48, .aload_n 0, 0, 0, 0, 0, 0, 0), (49, .getfield 28, 9, 2, 0, 250, 0, 0), (52, .iload_n 3, 0, 0, 0, 0, 0, 0), (53, .invokevirtual 194, 47, 2, 7, 519, 0, 0), (56, .goto 4, 60, 0, 0, 0, 0, 0), (59, .iload_n 3, 0, 0, 0, 0, 0, 0), (60, .ireturn, 0, 0, 0, 0, 0, 0)]
def cd_X9_raised : List pm_R := [(0, .aload_n 0, 0, 0, 0, 0, 0, 0), (1, .iload_n 1, 0, 0, 0, 0, 0, 0), (2, .invokevirtual 105, 94, 2, 9, 341, 0, 0), (5, .ifCond .eq 14, 19, 0, 0, 0, 0, 0), (8, .iload_n 2, 0, 0, 0, 0, 0, 0), (9, .iconst 0, 0, 0, 0, 0, 0, 0), (10, .sipush 999, 0, 0, 0, 0, 999, 0), (13, .invokestatic 84, 99, 3, 0, 286, 0, 0), (16, .ifCond .ne 6, 22, 0, 0, 0, 0, 0), (19, .bipush (-2), 0, 0, 0, 0, -2, 0), (21, .ireturn, 0, 0, 0, 0, 0, 0), (22, .aload_n 0, 0, 0, 0, 0, 0, 0), (23, .getfield 28, 9, 2, 0, 250, 0, 0), (26, .iload_n 1, 0, 0, 0, 0, 0, 0), (27, .iload_n 2, 0, 0, 0, 0, 0, 0), (28, .invokevirtual 197, 53, 3, 7, 529, 0, 0), (31, .ireturn, 0, 0, 0, 0, 0, 0)]
def cd_X9_rounds : List pm_R := [(0, .iload_n 1, 0, 0, 0, 0, 0, 0), (1, .invokestatic 161, 96, 1, 0, 422, 0, 0), (4, .ifCond .eq 19, 23, 0, 0, 0, 0, 0), (7, .iload_n 2, 0, 0, 0, 0, 0, 0), (8, .invokestatic 161, 96, 1, 0, 422, 0, 0), (11, .ifCond .eq 12, 23, 0, 0, 0, 0, 0), (14, .iload_n 3, 0, 0, 0, 0, 0, 0), (15, .iconst 0, 0, 0, 0, 0, 0, 0), (16, .iconst 2, 0, 0, 0, 0, 2, 0), (17, .invokestatic 84, 99, 3, 0, 286, 0, 0), (20, .ifCond .ne 6, 26, 0, 0, 0, 0, 0), (23, .bipush (-2), 0, 0, 0, 0, -2, 0), (25, .ireturn, 0, 0, 0, 0, 0, 0), (26, .aload_n 0, 0, 0, 0, 0, 0, 0), (27, .getfield 44, 9, 4, 0, 252, 0, 0), (30, .iload_n 1, 0, 0, 0, 0, 0, 0), (31, .iload_n 2, 0, 0, 0, 0, 0, 0), (32, .invokevirtual 200, 29, 3, 5, 541, 0, 0), (35, .iload_n 3, 0, 0, 0, 0, 0, 0), (36, .lookupswitch 44 #[(0, 28), (1, 36)], 28, 0, 0, 0, 0, 0), (64, .aload_n 0, 0, 0, 0, 0, 0, 0), (65, .getfield 44, 9, 4, 0, 252, 0, 0), (68, .invokevirtual 203, 30, 1, 5, 546, 0, 0), (71, .ireturn, 0, 0, 0, 0, 0, 0), (72, .aload_n 0, 0, 0, 0, 0, 0, 0), (73, .getfield 44, 9, 4, 0, 252, 0, 0), (76, .invokevirtual 206, 31, 1, 5, 550, 0, 0), (79, .ireturn, 0, 0, 0, 0, 0, 0), (80, .aload_n 0, 0, 0, 0, 0, 0, 0), (81, .getfield 44, 9, 4, 0, 252, 0, 0), (84, .invokevirtual 209, 32, 1, 5, 554, 0, 0), (87, .ireturn, 0, 0, 0, 0, 0, 0)]
def cd_X9_figures : List pm_R := [(0, .iload_n 1, 0, 0, 0, 0, 0, 0), (1, .iconst 1, 0, 0, 0, 0, 1, 0), (2, .iconst 3, 0, 0, 0, 0, 3, 0), (3, .invokestatic 84, 99, 3, 0, 286, 0, 0), (6, .ifCond .eq 12, 18, 0, 0, 0, 0, 0), (9, .iload_n 2, 0, 0, 0, 0, 0, 0), (10, .iconst 0, 0, 0, 0, 0, 0, 0), (11, .iconst 3, 0, 0, 0, 0, 3, 0), (12, .invokestatic 84, 99, 3, 0, 286, 0, 0), (15, .ifCond .ne 6, 21, 0, 0, 0, 0, 0), (18, .bipush (-2), 0, 0, 0, 0, -2, 0), (20, .ireturn, 0, 0, 0, 0, 0, 0), (21, .aload_n 0, 0, 0, 0, 0, 0, 0), (22, .getfield 51, 9, 5, 0, 253, 0, 0), (25, .iload_n 1, 0, 0, 0, 0, 0, 0), (26, .iload_n 2, 0, 0, 0, 0, 0, 0), (27, .invokevirtual 212, 1, 3, 0, 562, 0, 0), (30, .ireturn, 0, 0, 0, 0, 0, 0)]
def cd_X9_rent : List pm_R := [(0, .iload_n 1, 0, 0, 0, 0, 0, 0), (1, .iconst 0, 0, 0, 0, 0, 0, 0), (2, .bipush 120, 0, 0, 0, 0, 120, 0), (4, .invokestatic 84, 99, 3, 0, 286, 0, 0), (7, .ifCond .eq 22, 29, 0, 0, 0, 0, 0), (10, .iload_n 2, 0, 0, 0, 0, 0, 0), (11, .iconst 1, 0, 0, 0, 0, 1, 0), (12, .bipush 6, 0, 0, 0, 0, 6, 0), (14, .invokestatic 84, 99, 3, 0, 286, 0, 0), (17, .ifCond .eq 12, 29, 0, 0, 0, 0, 0), (20, .iload_n 3, 0, 0, 0, 0, 0, 0), (21, .iconst 0, 0, 0, 0, 0, 0, 0), (22, .iconst 1, 0, 0, 0, 0, 1, 0), (23, .invokestatic 84, 99, 3, 0, 286, 0, 0), (26, .ifCond .ne 6, 32, 0, 0, 0, 0, 0), (29, .bipush (-2), 0, 0, 0, 0, -2, 0), (31, .ireturn, 0, 0, 0, 0, 0, 0), (32, .aload_n 0, 0, 0, 0, 0, 0, 0), (33, .getfield 58, 9, 6, 0, 254, 0, 0), (36, .iload_n 1, 0, 0, 0, 0, 0, 0), (37, .iload_n 2, 0, 0, 0, 0, 0, 0), (38, .iload_n 3, 0, 0, 0, 0, 0, 0), (39, .iconst 1, 0, 0, 0, 0, 1, 0), (40, .if_icmp .ne 7, 47, 0, 0, 0, 0, 0), (43, .iconst 1, 0, 0, 0, 0, 1, 0), (44, .goto 4, 48, 0, 0, 0, 0, 0), (47, .iconst 0, 0, 0, 0, 0, 0, 0), (48, .invokevirtual 215, 22, 4, 3, 586, 0, 0), (51, .ireturn, 0, 0, 0, 0, 0, 0)]
def cd_X9_share : List pm_R := [(0, .iload_n 1, 0, 0, 0, 0, 0, 0), (1, .invokestatic 133, 95, 1, 0, 385, 0, 0), (4, .ifCond .eq 12, 16, 0, 0, 0, 0, 0), (7, .iload_n 2, 0, 0, 0, 0, 0, 0), (8, .iconst 0, 0, 0, 0, 0, 0, 0), (9, .iconst 1, 0, 0, 0, 0, 1, 0), (10, .invokestatic 84, 99, 3, 0, 286, 0, 0), (13, .ifCond .ne 7, 20, 0, 0, 0, 0, 0), (16, .ldc2_w 219, 0, 0, 0, 599, 0, -9223372036854775806), (19, .lreturn, 0, 0, 0, 0, 0, 0), (20, .aload_n 0, 0, 0, 0, 0, 0, 0), (21, .getfield 35, 9, 3, 0, 251, 0, 0), (24, .iload_n 1, 0, 0, 0, 0, 0, 0), (25, .invokevirtual 221, 26, 2, 4, 600, 0, 0), (28, .lstore_n 3, 0, 0, 0, 0, 0, 0), (29, .lload_n 3, 0, 0, 0, 0, 0, 0), (30, .invokestatic 225, 27, 1, 0, 614, 0, 0), (33, .istore 5, 0, 0, 0, 0, 0, 0), (35, .iload_n 2, 0, 0, 0, 0, 0, 0), (36, .ifCond .ne 11, 47, 0, 0, 0, 0, 0), (39, .lload_n 3, 0, 0, 0, 0, 0, 0), (40, .iload 5, 0, 0, 0, 0, 0, 0), (42, .i2l, 0, 0, 0, 0, 0, 0), (43, .ldiv, 0, 0, 0, 0, 0, 0), (44, .goto 9, 53, 0, 0, 0, 0, 0), (47, .bipush 24, 0, 0, 0, 0, 24, 0), (49, .iload 5, 0, 0, 0, 0, 0, 0), (51, .idiv, 0, 0, 0, 0, 0, 0), (52, .i2l, 0, 0, 0, 0, 0, 0), (53, .lreturn, 0, 0, 0, 0, 0, 0)]
def cd_X9_smudged : List pm_R := [(0, .iload_n 1, 0, 0, 0, 0, 0, 0), (1, .invokestatic 139, 97, 1, 0, 396, 0, 0), (4, .ifCond .eq 12, 16, 0, 0, 0, 0, 0), (7, .iload_n 2, 0, 0, 0, 0, 0, 0), (8, .iconst 0, 0, 0, 0, 0, 0, 0), (9, .iconst 1, 0, 0, 0, 0, 1, 0), (10, .invokestatic 84, 99, 3, 0, 286, 0, 0), (13, .ifCond .ne 6, 19, 0, 0, 0, 0, 0), (16, .bipush (-2), 0, 0, 0, 0, -2, 0), (18, .ireturn, 0, 0, 0, 0, 0, 0), (19, .aload_n 0, 0, 0, 0, 0, 0, 0), (20, .getfield 72, 9, 8, 0, 256, 0, 0), (23, .iload_n 1, 0, 0, 0, 0, 0, 0), (24, .aaload, 0, 0, 0, 0, 0, 0), (25, .invokevirtual 142, 33, 1, 6, 399, 0, 0), (28, .ifCond .eq 9, 37, 0, 0, 0, 0, 0), (31, .aload_n 0, 0, 0, 0, 0, 0, 0), (32, .iconst 1, 0, 0, 0, 0, 1, 0), (33, .invokevirtual 146, 93, 2, 9, 403, 0, 0), (36, .ireturn, 0, 0, 0, 0, 0, 0), (37, .iconst 0, 0, 0, 0, 0, 0, 0), (38, .istore_n 3, 0, 0, 0, 0, 0, 0), (39, .iconst (-1), 0, 0, 0, 0, -1, 0), (40, .istore 4, 0, 0, 0, 0, 0, 0), (42, .aload_n 0, 0, 0, 0, 0, 0, 0), (43, .getfield 19, 9, 1, 0, 249, 0, 0), (46, .invokevirtual 167, 6, 1, 1, 433, 0, 0), (49, .istore 5, 0, 0, 0, 0, 0, 0), (51, .iload 5, 0, 0, 0, 0, 0, 0), (53, .ifCond .le 56, 109, 0, 0, 0, 0, 0), (56, .aload_n 0, 0, 0, 0, 0, 0, 0), (57, .getfield 12, 9, 0, 0, 248, 0, 0), (60, .aload_n 0, 0, 0, 0, 0, 0, 0), (61, .getfield 28, 9, 2, 0, 250, 0, 0), (64, .iload 5, 0, 0, 0, 0, 0, 0), (66, .invokevirtual 173, 46, 2, 7, 448, 0, 0), (69, .aload_n 0, 0, 0, 0, 0, 0, 0), (70, .getfield 76, 9, 9, 0, 257, 0, 0), (73, .invokevirtual 229, 21, 3, 2, 621, 0, 0), (76, .istore 6, 0, 0, 0, 0, 0, 0), (78, .aload_n 0, 0, 0, 0, 0, 0, 0), (79, .getfield 72, 9, 8, 0, 256, 0, 0), (82, .iload_n 1, 0, 0, 0, 0, 0, 0), (83, .aaload, 0, 0, 0, 0, 0, 0), (84, .aload_n 0, 0, 0, 0, 0, 0, 0), (85, .getfield 76, 9, 9, 0, 257, 0, 0), (88, .iload 6, 0, 0, 0, 0, 0, 0), (90, .invokevirtual 233, 43, 3, 6, 625, 0, 0), (93, .ifCond .eq 10, 103, 0, 0, 0, 0, 0), (96, .iinc 3 1, 0, 0, 0, 0, 1, 0), (99, .iload 5, 0, 0, 0, 0, 0, 0), (101, .istore 4, 0, 0, 0, 0, 0, 0), (103, .iinc 5 (-1), 0, 0, 0, 0, -1, 0), (106, .goto (-55), 51, 0, 0, 0, 0, 0), (109, .iload_n 2, 0, 0, 0, 0, 0, 0), (110, .ifCond .ne 7, 117, 0, 0, 0, 0, 0), (113, .iload_n 3, 0, 0, 0, 0, 0, 0), (114, .goto 5, 119, 0, 0, 0, 0, 0), (117, .iload 4, 0, 0, 0, 0, 0, 0), (119, .ireturn, 0, 0, 0, 0, 0, 0)]
def cd_X9_game : List pm_R := [(0, .iload_n 1, 0, 0, 0, 0, 0, 0), (1, .iconst 0, 0, 0, 0, 0, 0, 0), (2, .sipush 200, 0, 0, 0, 0, 200, 0), (5, .invokestatic 84, 99, 3, 0, 286, 0, 0), (8, .ifCond .eq 28, 36, 0, 0, 0, 0, 0), (11, .iload_n 3, 0, 0, 0, 0, 0, 0), (12, .iconst 1, 0, 0, 0, 0, 1, 0), (13, .sipush 200, 0, 0, 0, 0, 200, 0), (16, .invokestatic 84, 99, 3, 0, 286, 0, 0), (19, .ifCond .eq 17, 36, 0, 0, 0, 0, 0), (22, .iload 4, 0, 0, 0, 0, 0, 0), (24, .iconst 0, 0, 0, 0, 0, 0, 0), (25, .iconst 1, 0, 0, 0, 0, 1, 0), (26, .invokestatic 84, 99, 3, 0, 286, 0, 0), (29, .ifCond .eq 7, 36, 0, 0, 0, 0, 0), (32, .iconst 1, 0, 0, 0, 0, 1, 0), (33, .goto 4, 37, 0, 0, 0, 0, 0), (36, .iconst 0, 0, 0, 0, 0, 0, 0), (37, .istore 5, 0, 0, 0, 0, 0, 0), (39, .iload 5, 0, 0, 0, 0, 0, 0), (41, .ifCond .eq 15, 56, 0, 0, 0, 0, 0), (44, .iload_n 2, 0, 0, 0, 0, 0, 0), (45, .ifCond .eq 11, 56, 0, 0, 0, 0, 0), (48, .iload_n 2, 0, 0, 0, 0, 0, 0), (49, .sipush (-1023), 0, 0, 0, 0, -1023, 0), (52, .iand, 0, 0, 0, 0, 0, 0), (53, .ifCond .eq 6, 59, 0, 0, 0, 0, 0), (56, .bipush (-2), 0, 0, 0, 0, -2, 0), (58, .ireturn, 0, 0, 0, 0, 0, 0), (59, .iload_n 1, 0, 0, 0, 0, 0, 0), (60, .iload_n 3, 0, 0, 0, 0, 0, 0), (61, .if_icmp .lt 21, 82, 0, 0, 0, 0, 0), (64, .iload 4, 0, 0, 0, 0, 0, 0), (66, .ifCond .ne 14, 80, 0, 0, 0, 0, 0), (69, .aload_n 0, 0, 0, 0, 0, 0, 0), (70, .getfield 12, 9, 0, 0, 248, 0, 0), (73, .iload_n 1, 0, 0, 0, 0, 0, 0), (74, .invokevirtual 164, 20, 2, 2, 425, 0, 0), (77, .goto 4, 81, 0, 0, 0, 0, 0), (80, .iconst 0, 0, 0, 0, 0, 0, 0), (81, .ireturn, 0, 0, 0, 0, 0, 0), (82, .aload_n 0, 0, 0, 0, 0, 0, 0), (83, .getfield 65, 9, 7, 0, 255, 0, 0), (86, .iload_n 1, 0, 0, 0, 0, 0, 0), (87, .iload_n 2, 0, 0, 0, 0, 0, 0), (88, .iload_n 3, 0, 0, 0, 0, 0, 0), (89, .invokevirtual 237, 60, 4, 8, 633, 0, 0), (92, .iload 4, 0, 0, 0, 0, 0, 0), (94, .ifCond .ne 14, 108, 0, 0, 0, 0, 0), (97, .aload_n 0, 0, 0, 0, 0, 0, 0), (98, .getfield 65, 9, 7, 0, 255, 0, 0), (101, .iload_n 1, 0, 0, 0, 0, 0, 0), (102, .invokevirtual 241, 61, 2, 8, 641, 0, 0), (105, .goto 12, 117, 0, 0, 0, 0, 0), (108, .aload_n 0, 0, 0, 0, 0, 0, 0), (109, .getfield 65, 9, 7, 0, 255, 0, 0), (112, .iload_n 1, 0, 0, 0, 0, 0, 0), (113, .iload_n 2, 0, 0, 0, 0, 0, 0), (114, .invokevirtual 244, 62, 3, 8, 645, 0, 0), (117, .ireturn, 0, 0, 0, 0, 0, 0)]
def cd_X9_sheet : List pm_R := [(0, .iload_n 1, 0, 0, 0, 0, 0, 0), (1, .invokestatic 139, 97, 1, 0, 396, 0, 0), (4, .ifCond .eq 16, 20, 0, 0, 0, 0, 0), (7, .iload_n 2, 0, 0, 0, 0, 0, 0), (8, .invokestatic 247, 98, 1, 0, 653, 0, 0), (11, .ifCond .eq 9, 20, 0, 0, 0, 0, 0), (14, .iload_n 3, 0, 0, 0, 0, 0, 0), (15, .bipush 60, 0, 0, 0, 0, 60, 0), (17, .if_icmp .le 6, 23, 0, 0, 0, 0, 0), (20, .bipush (-2), 0, 0, 0, 0, -2, 0), (22, .ireturn, 0, 0, 0, 0, 0, 0), (23, .iload_n 3, 0, 0, 0, 0, 0, 0), (24, .ifCond .ge 9, 33, 0, 0, 0, 0, 0), (27, .aload_n 0, 0, 0, 0, 0, 0, 0), (28, .iconst 5, 0, 0, 0, 0, 5, 0), (29, .invokevirtual 146, 93, 2, 9, 403, 0, 0), (32, .ireturn, 0, 0, 0, 0, 0, 0), (33, .aload_n 0, 0, 0, 0, 0, 0, 0), (34, .getfield 72, 9, 8, 0, 256, 0, 0), (37, .iload_n 1, 0, 0, 0, 0, 0, 0), (38, .aaload, 0, 0, 0, 0, 0, 0), (39, .iload_n 2, 0, 0, 0, 0, 0, 0), (40, .iload_n 3, 0, 0, 0, 0, 0, 0), (41, .invokevirtual 250, 37, 3, 6, 656, 0, 0), (44, .iload_n 3, 0, 0, 0, 0, 0, 0), (45, .ireturn, 0, 0, 0, 0, 0, 0)]
def cd_X9_lose : List pm_R := [(0, .iload_n 1, 0, 0, 0, 0, 0, 0), (1, .invokestatic 139, 97, 1, 0, 396, 0, 0), (4, .ifCond .ne 6, 10, 0, 0, 0, 0, 0), (7, .bipush (-2), 0, 0, 0, 0, -2, 0), (9, .ireturn, 0, 0, 0, 0, 0, 0), (10, .aload_n 0, 0, 0, 0, 0, 0, 0), (11, .getfield 72, 9, 8, 0, 256, 0, 0), (14, .iload_n 1, 0, 0, 0, 0, 0, 0), (15, .aaload, 0, 0, 0, 0, 0, 0), (16, .invokevirtual 142, 33, 1, 6, 399, 0, 0), (19, .ifCond .eq 9, 28, 0, 0, 0, 0, 0), (22, .aload_n 0, 0, 0, 0, 0, 0, 0), (23, .iconst 1, 0, 0, 0, 0, 1, 0), (24, .invokevirtual 146, 93, 2, 9, 403, 0, 0), (27, .ireturn, 0, 0, 0, 0, 0, 0), (28, .aload_n 0, 0, 0, 0, 0, 0, 0), (29, .getfield 72, 9, 8, 0, 256, 0, 0), (32, .iload_n 1, 0, 0, 0, 0, 0, 0), (33, .aaload, 0, 0, 0, 0, 0, 0), (34, .invokevirtual 149, 35, 1, 6, 407, 0, 0), (37, .istore_n 2, 0, 0, 0, 0, 0, 0), (38, .aload_n 0, 0, 0, 0, 0, 0, 0), (39, .getfield 72, 9, 8, 0, 256, 0, 0), (42, .iload_n 1, 0, 0, 0, 0, 0, 0), (43, .aaload, 0, 0, 0, 0, 0, 0), (44, .invokevirtual 253, 38, 1, 6, 665, 0, 0), (47, .iload_n 2, 0, 0, 0, 0, 0, 0), (48, .ireturn, 0, 0, 0, 0, 0, 0)]
def cd_X9_lay : List pm_R := [(0, .iload_n 1, 0, 0, 0, 0, 0, 0), (1, .invokestatic 139, 97, 1, 0, 396, 0, 0), (4, .ifCond .eq 10, 14, 0, 0, 0, 0, 0), (7, .iload_n 2, 0, 0, 0, 0, 0, 0), (8, .invokestatic 247, 98, 1, 0, 653, 0, 0), (11, .ifCond .ne 6, 17, 0, 0, 0, 0, 0), (14, .bipush (-2), 0, 0, 0, 0, -2, 0), (16, .ireturn, 0, 0, 0, 0, 0, 0), (17, .aload_n 0, 0, 0, 0, 0, 0, 0), (18, .getfield 72, 9, 8, 0, 256, 0, 0), (21, .iload_n 1, 0, 0, 0, 0, 0, 0), (22, .aaload, 0, 0, 0, 0, 0, 0), (23, .iload_n 2, 0, 0, 0, 0, 0, 0), (24, .iload_n 3, 0, 0, 0, 0, 0, 0), (25, .invokevirtual 256, 40, 3, 6, 673, 0, 0), (28, .istore 5, 0, 0, 0, 0, 0, 0), (30, .iload 5, 0, 0, 0, 0, 0, 0), (32, .ifCond .eq 10, 42, 0, 0, 0, 0, 0), (35, .aload_n 0, 0, 0, 0, 0, 0, 0), (36, .iload 5, 0, 0, 0, 0, 0, 0), (38, .invokevirtual 146, 93, 2, 9, 403, 0, 0), (41, .ireturn, 0, 0, 0, 0, 0, 0), (42, .aload_n 0, 0, 0, 0, 0, 0, 0), (43, .getfield 72, 9, 8, 0, 256, 0, 0), (46, .iload_n 1, 0, 0, 0, 0, 0, 0), (47, .aaload, 0, 0, 0, 0, 0, 0), (48, .iload_n 3, 0, 0, 0, 0, 0, 0), (49, .iload 4, 0, 0, 0, 0, 0, 0), (51, .invokevirtual 259, 39, 3, 6, 679, 0, 0), (54, .iconst 1, 0, 0, 0, 0, 1, 0), (55, .ireturn, 0, 0, 0, 0, 0, 0)]
def cd_X9_get : List pm_R := [(0, .iload_n 1, 0, 0, 0, 0, 0, 0), (1, .invokestatic 139, 97, 1, 0, 396, 0, 0), (4, .ifCond .eq 10, 14, 0, 0, 0, 0, 0), (7, .iload_n 2, 0, 0, 0, 0, 0, 0), (8, .invokestatic 247, 98, 1, 0, 653, 0, 0), (11, .ifCond .ne 7, 18, 0, 0, 0, 0, 0), (14, .ldc_w 262, 0, 0, 0, 687, -2147483648, 0), (17, .ireturn, 0, 0, 0, 0, 0, 0), (18, .aload_n 0, 0, 0, 0, 0, 0, 0), (19, .getfield 72, 9, 8, 0, 256, 0, 0), (22, .iload_n 1, 0, 0, 0, 0, 0, 0), (23, .aaload, 0, 0, 0, 0, 0, 0), (24, .iload_n 2, 0, 0, 0, 0, 0, 0), (25, .iload_n 3, 0, 0, 0, 0, 0, 0), (26, .invokevirtual 256, 40, 3, 6, 673, 0, 0), (29, .istore 4, 0, 0, 0, 0, 0, 0), (31, .iload 4, 0, 0, 0, 0, 0, 0), (33, .ifCond .eq 14, 47, 0, 0, 0, 0, 0), (36, .aload_n 0, 0, 0, 0, 0, 0, 0), (37, .iload 4, 0, 0, 0, 0, 0, 0), (39, .invokevirtual 146, 93, 2, 9, 403, 0, 0), (42, .pop, 0, 0, 0, 0, 0, 0), (43, .ldc_w 262, 0, 0, 0, 687, -2147483648, 0), (46, .ireturn, 0, 0, 0, 0, 0, 0), (47, .aload_n 0, 0, 0, 0, 0, 0, 0), (48, .getfield 72, 9, 8, 0, 256, 0, 0), (51, .iload_n 1, 0, 0, 0, 0, 0, 0), (52, .aaload, 0, 0, 0, 0, 0, 0), (53, .iload_n 3, 0, 0, 0, 0, 0, 0), (54, .invokevirtual 158, 36, 2, 6, 414, 0, 0), (57, .ireturn, 0, 0, 0, 0, 0, 0)]
def cd_X9_copy : List pm_R := [(0, .iload_n 1, 0, 0, 0, 0, 0, 0), (1, .invokestatic 139, 97, 1, 0, 396, 0, 0), (4, .ifCond .eq 10, 14, 0, 0, 0, 0, 0), (7, .iload_n 3, 0, 0, 0, 0, 0, 0), (8, .invokestatic 139, 97, 1, 0, 396, 0, 0), (11, .ifCond .ne 6, 17, 0, 0, 0, 0, 0), (14, .bipush (-2), 0, 0, 0, 0, -2, 0), (16, .ireturn, 0, 0, 0, 0, 0, 0), (17, .aload_n 0, 0, 0, 0, 0, 0, 0), (18, .getfield 72, 9, 8, 0, 256, 0, 0), (21, .iload_n 1, 0, 0, 0, 0, 0, 0), (22, .aaload, 0, 0, 0, 0, 0, 0), (23, .astore 6, 0, 0, 0, 0, 0, 0), (25, .aload_n 0, 0, 0, 0, 0, 0, 0), (26, .getfield 72, 9, 8, 0, 256, 0, 0), (29, .iload_n 3, 0, 0, 0, 0, 0, 0), (30, .aaload, 0, 0, 0, 0, 0, 0), (31, .astore 7, 0, 0, 0, 0, 0, 0), (33, .aload 6, 0, 0, 0, 0, 0, 0), (35, .invokevirtual 142, 33, 1, 6, 399, 0, 0), (38, .ifCond .ne 11, 49, 0, 0, 0, 0, 0), (41, .aload 7, 0, 0, 0, 0, 0, 0), (43, .invokevirtual 142, 33, 1, 6, 399, 0, 0), (46, .ifCond .eq 9, 55, 0, 0, 0, 0, 0), (49, .aload_n 0, 0, 0, 0, 0, 0, 0), (50, .iconst 1, 0, 0, 0, 0, 1, 0), (51, .invokevirtual 146, 93, 2, 9, 403, 0, 0), (54, .ireturn, 0, 0, 0, 0, 0, 0), (55, .aload 6, 0, 0, 0, 0, 0, 0), (57, .aload 7, 0, 0, 0, 0, 0, 0), (59, .invokevirtual 263, 34, 2, 6, 692, 0, 0), (62, .ifCond .ne 9, 71, 0, 0, 0, 0, 0), (65, .aload_n 0, 0, 0, 0, 0, 0, 0), (66, .iconst 4, 0, 0, 0, 0, 4, 0), (67, .invokevirtual 146, 93, 2, 9, 403, 0, 0), (70, .ireturn, 0, 0, 0, 0, 0, 0), (71, .aload 6, 0, 0, 0, 0, 0, 0), (73, .iload_n 2, 0, 0, 0, 0, 0, 0), (74, .iload 5, 0, 0, 0, 0, 0, 0), (76, .invokevirtual 267, 41, 3, 6, 696, 0, 0), (79, .ifCond .eq 15, 94, 0, 0, 0, 0, 0), (82, .aload 7, 0, 0, 0, 0, 0, 0), (84, .iload 4, 0, 0, 0, 0, 0, 0), (86, .iload 5, 0, 0, 0, 0, 0, 0), (88, .invokevirtual 267, 41, 3, 6, 696, 0, 0), (91, .ifCond .ne 9, 100, 0, 0, 0, 0, 0), (94, .aload_n 0, 0, 0, 0, 0, 0, 0), (95, .iconst 2, 0, 0, 0, 0, 2, 0), (96, .invokevirtual 146, 93, 2, 9, 403, 0, 0), (99, .ireturn, 0, 0, 0, 0, 0, 0), (100, .aload 7, 0, 0, 0, 0, 0, 0), (102, .aload 6, 0, 0, 0, 0, 0, 0), (104, .iload_n 2, 0, 0, 0, 0, 0, 0), (105, .iload 4, 0, 0, 0, 0, 0, 0), (107, .iload 5, 0, 0, 0, 0, 0, 0), (109, .invokevirtual 271, 42, 5, 6, 700, 0, 0), (112, .iconst 1, 0, 0, 0, 0, 1, 0), (113, .ireturn, 0, 0, 0, 0, 0, 0)]
def cd_X9_write : List pm_R := [(0, .iload_n 1, 0, 0, 0, 0, 0, 0), (1, .invokestatic 161, 96, 1, 0, 422, 0, 0), (4, .ifCond .eq 10, 14, 0, 0, 0, 0, 0), (7, .iload_n 2, 0, 0, 0, 0, 0, 0), (8, .invokestatic 139, 97, 1, 0, 396, 0, 0), (11, .ifCond .ne 6, 17, 0, 0, 0, 0, 0), (14, .bipush (-2), 0, 0, 0, 0, -2, 0), (16, .ireturn, 0, 0, 0, 0, 0, 0), (17, .aload_n 0, 0, 0, 0, 0, 0, 0), (18, .getfield 72, 9, 8, 0, 256, 0, 0), (21, .iload_n 2, 0, 0, 0, 0, 0, 0), (22, .aaload, 0, 0, 0, 0, 0, 0), (23, .astore_n 3, 0, 0, 0, 0, 0, 0), (24, .aload_n 3, 0, 0, 0, 0, 0, 0), (25, .invokevirtual 142, 33, 1, 6, 399, 0, 0), (28, .ifCond .eq 9, 37, 0, 0, 0, 0, 0), (31, .aload_n 0, 0, 0, 0, 0, 0, 0), (32, .iconst 1, 0, 0, 0, 0, 1, 0), (33, .invokevirtual 146, 93, 2, 9, 403, 0, 0), (36, .ireturn, 0, 0, 0, 0, 0, 0), (37, .aload_n 0, 0, 0, 0, 0, 0, 0), (38, .getfield 12, 9, 0, 0, 248, 0, 0), (41, .iload_n 1, 0, 0, 0, 0, 0, 0), (42, .aload_n 0, 0, 0, 0, 0, 0, 0), (43, .getfield 76, 9, 9, 0, 257, 0, 0), (46, .invokevirtual 229, 21, 3, 2, 621, 0, 0), (49, .istore 4, 0, 0, 0, 0, 0, 0), (51, .iload 4, 0, 0, 0, 0, 0, 0), (53, .aload_n 3, 0, 0, 0, 0, 0, 0), (54, .invokevirtual 149, 35, 1, 6, 407, 0, 0), (57, .invokestatic 152, 413, 2, 4, 411, 0, 0), (60, .istore 5, 0, 0, 0, 0, 0, 0), (62, .iconst 0, 0, 0, 0, 0, 0, 0), (63, .istore 6, 0, 0, 0, 0, 0, 0), (65, .iload 6, 0, 0, 0, 0, 0, 0), (67, .iload 5, 0, 0, 0, 0, 0, 0), (69, .if_icmp .ge 27, 96, 0, 0, 0, 0, 0), (72, .aload_n 3, 0, 0, 0, 0, 0, 0), (73, .iload 6, 0, 0, 0, 0, 0, 0), (75, .aload_n 0, 0, 0, 0, 0, 0, 0), (76, .getfield 76, 9, 9, 0, 257, 0, 0), (79, .iload 4, 0, 0, 0, 0, 0, 0), (81, .iconst 1, 0, 0, 0, 0, 1, 0), (82, .isub, 0, 0, 0, 0, 0, 0), (83, .iload 6, 0, 0, 0, 0, 0, 0), (85, .isub, 0, 0, 0, 0, 0, 0), (86, .iaload, 0, 0, 0, 0, 0, 0), (87, .invokevirtual 259, 39, 3, 6, 679, 0, 0), (90, .iinc 6 1, 0, 0, 0, 0, 1, 0), (93, .goto (-28), 65, 0, 0, 0, 0, 0), (96, .iload 5, 0, 0, 0, 0, 0, 0), (98, .ireturn, 0, 0, 0, 0, 0, 0)]
def cd_X9_count : List pm_R := [(0, .iload_n 1, 0, 0, 0, 0, 0, 0), (1, .tableswitch 109 0 8 #[51, 59, 67, 78, 93, 93, 93, 93, 104], 51, 0, 0, 0, 0, 0), (52, .aload_n 0, 0, 0, 0, 0, 0, 0), (53, .getfield 19, 9, 1, 0, 249, 0, 0), (56, .invokevirtual 189, 5, 1, 1, 345, 0, 0), (59, .ireturn, 0, 0, 0, 0, 0, 0), (60, .aload_n 0, 0, 0, 0, 0, 0, 0), (61, .getfield 19, 9, 1, 0, 249, 0, 0), (64, .invokevirtual 88, 4, 1, 1, 289, 0, 0), (67, .ireturn, 0, 0, 0, 0, 0, 0), (68, .aload_n 0, 0, 0, 0, 0, 0, 0), (69, .getfield 19, 9, 1, 0, 249, 0, 0), (72, .invokevirtual 275, 7, 1, 1, 715, 0, 0), (75, .invokestatic 278, 163, 1, 0, 716, 0, 0), (78, .ireturn, 0, 0, 0, 0, 0, 0), (79, .aload_n 0, 0, 0, 0, 0, 0, 0), (80, .getfield 28, 9, 2, 0, 250, 0, 0), (83, .aload_n 0, 0, 0, 0, 0, 0, 0), (84, .getfield 19, 9, 1, 0, 249, 0, 0), (87, .invokevirtual 167, 6, 1, 1, 433, 0, 0), (90, .invokevirtual 170, 45, 2, 7, 437, 0, 0), (93, .ireturn, 0, 0, 0, 0, 0, 0), (94, .aload_n 0, 0, 0, 0, 0, 0, 0), (95, .getfield 12, 9, 0, 0, 248, 0, 0), (98, .iload_n 1, 0, 0, 0, 0, 0, 0), (99, .iconst 4, 0, 0, 0, 0, 4, 0), (100, .isub, 0, 0, 0, 0, 0, 0), (101, .invokevirtual 125, 18, 2, 2, 369, 0, 0), (104, .ireturn, 0, 0, 0, 0, 0, 0), (105, .aload_n 0, 0, 0, 0, 0, 0, 0), (106, .getfield 80, 9, 10, 0, 258, 0, 0), (109, .ireturn, 0, 0, 0, 0, 0, 0), (110, .bipush (-2), 0, 0, 0, 0, -2, 0), (112, .ireturn, 0, 0, 0, 0, 0, 0)]
def cd_X9_digest : List pm_R := [(0, .ldc2_w 283, 0, 0, 0, 721, 0, 17), (3, .lstore_n 1, 0, 0, 0, 0, 0, 0), (4, .iconst 0, 0, 0, 0, 0, 0, 0), (5, .istore_n 3, 0, 0, 0, 0, 0, 0), (6, .iload_n 3, 0, 0, 0, 0, 0, 0), (7, .bipush 7, 0, 0, 0, 0, 7, 0), (9, .if_icmp .gt 22, 31, 0, 0, 0, 0, 0), (12, .ldc2_w 285, 0, 0, 0, 722, 0, 31), (15, .lload_n 1, 0, 0, 0, 0, 0, 0), (16, .lmul, 0, 0, 0, 0, 0, 0), (17, .aload_n 0, 0, 0, 0, 0, 0, 0), (18, .iload_n 3, 0, 0, 0, 0, 0, 0), (19, .invokevirtual 287, 89, 2, 9, 723, 0, 0), (22, .i2l, 0, 0, 0, 0, 0, 0), (23, .ladd, 0, 0, 0, 0, 0, 0), (24, .lstore_n 1, 0, 0, 0, 0, 0, 0), (25, .iinc 3 1, 0, 0, 0, 0, 1, 0), (28, .goto (-22), 6, 0, 0, 0, 0, 0), (31, .ldc2_w 285, 0, 0, 0, 722, 0, 31), (34, .lload_n 1, 0, 0, 0, 0, 0, 0), (35, .lmul, 0, 0, 0, 0, 0, 0), (36, .aload_n 0, 0, 0, 0, 0, 0, 0), (37, .invokevirtual 290, 66, 1, 9, 724, 0, 0), (40, .i2l, 0, 0, 0, 0, 0, 0), (41, .ladd, 0, 0, 0, 0, 0, 0), (42, .lstore_n 1, 0, 0, 0, 0, 0, 0), (43, .aload_n 0, 0, 0, 0, 0, 0, 0), (44, .lload_n 1, 0, 0, 0, 0, 0, 0), (45, .invokevirtual 293, 91, 2, 9, 725, 0, 0), (48, .lstore_n 1, 0, 0, 0, 0, 0, 0), (49, .iconst 0, 0, 0, 0, 0, 0, 0), (50, .istore_n 3, 0, 0, 0, 0, 0, 0), (51, .iload_n 3, 0, 0, 0, 0, 0, 0), (52, .iconst 3, 0, 0, 0, 0, 3, 0), (53, .if_icmp .gt 22, 75, 0, 0, 0, 0, 0), (56, .ldc2_w 285, 0, 0, 0, 722, 0, 31), (59, .lload_n 1, 0, 0, 0, 0, 0, 0), (60, .lmul, 0, 0, 0, 0, 0, 0), (61, .aload_n 0, 0, 0, 0, 0, 0, 0), (62, .iload_n 3, 0, 0, 0, 0, 0, 0), (63, .invokevirtual 297, 73, 2, 9, 732, 0, 0), (66, .i2l, 0, 0, 0, 0, 0, 0), (67, .ladd, 0, 0, 0, 0, 0, 0), (68, .lstore_n 1, 0, 0, 0, 0, 0, 0), (69, .iinc 3 1, 0, 0, 0, 0, 1, 0), (72, .goto (-21), 51, 0, 0, 0, 0, 0), (75, .ldc2_w 285, 0, 0, 0, 722, 0, 31), (78, .lload_n 1, 0, 0, 0, 0, 0, 0), (79, .lmul, 0, 0, 0, 0, 0, 0), (80, .aload_n 0, 0, 0, 0, 0, 0, 0), (81, .bipush 120, 0, 0, 0, 0, 120, 0), (83, .invokevirtual 300, 74, 2, 9, 733, 0, 0), (86, .i2l, 0, 0, 0, 0, 0, 0), (87, .ladd, 0, 0, 0, 0, 0, 0), (88, .lstore_n 1, 0, 0, 0, 0, 0, 0), (89, .ldc2_w 285, 0, 0, 0, 722, 0, 31), (92, .lload_n 1, 0, 0, 0, 0, 0, 0), (93, .lmul, 0, 0, 0, 0, 0, 0), (94, .aload_n 0, 0, 0, 0, 0, 0, 0), (95, .bipush 8, 0, 0, 0, 0, 8, 0), (97, .iconst 0, 0, 0, 0, 0, 0, 0), (98, .invokevirtual 303, 75, 3, 9, 734, 0, 0), (101, .i2l, 0, 0, 0, 0, 0, 0), (102, .ladd, 0, 0, 0, 0, 0, 0), (103, .lstore_n 1, 0, 0, 0, 0, 0, 0), (104, .ldc2_w 285, 0, 0, 0, 722, 0, 31), (107, .lload_n 1, 0, 0, 0, 0, 0, 0), (108, .lmul, 0, 0, 0, 0, 0, 0), (109, .aload_n 0, 0, 0, 0, 0, 0, 0), (110, .bipush 8, 0, 0, 0, 0, 8, 0), (112, .iconst 1, 0, 0, 0, 0, 1, 0), (113, .invokevirtual 303, 75, 3, 9, 734, 0, 0), (116, .i2l, 0, 0, 0, 0, 0, 0), (117, .ladd, 0, 0, 0, 0, 0, 0), (118, .lstore_n 1, 0, 0, 0, 0, 0, 0), (119, .iconst 0, 0, 0, 0, 0, 0, 0), (120, .istore_n 3, 0, 0, 0, 0, 0, 0), (121, .iload_n 3, 0, 0, 0, 0, 0, 0), (122, .iconst 2, 0, 0, 0, 0, 2, 0), (123, .if_icmp .gt 27, 150, 0, 0, 0, 0, 0), (126, .ldc2_w 285, 0, 0, 0, 722, 0, 31), (129, .lload_n 1, 0, 0, 0, 0, 0, 0), (130, .lmul, 0, 0, 0, 0, 0, 0), (131, .aload_n 0, 0, 0, 0, 0, 0, 0), (132, .sipush 500, 0, 0, 0, 0, 500, 0), (135, .bipush 21, 0, 0, 0, 0, 21, 0), (137, .iload_n 3, 0, 0, 0, 0, 0, 0), (138, .invokevirtual 306, 77, 4, 9, 735, 0, 0), (141, .i2l, 0, 0, 0, 0, 0, 0), (142, .ladd, 0, 0, 0, 0, 0, 0), (143, .lstore_n 1, 0, 0, 0, 0, 0, 0), (144, .iinc 3 1, 0, 0, 0, 0, 1, 0), (147, .goto (-26), 121, 0, 0, 0, 0, 0), (150, .aload_n 0, 0, 0, 0, 0, 0, 0), (151, .lload_n 1, 0, 0, 0, 0, 0, 0), (152, .invokevirtual 310, 92, 2, 9, 736, 0, 0), (155, .lstore_n 1, 0, 0, 0, 0, 0, 0), (156, .ldc2_w 285, 0, 0, 0, 722, 0, 31), (159, .lload_n 1, 0, 0, 0, 0, 0, 0), (160, .lmul, 0, 0, 0, 0, 0, 0), (161, .aload_n 0, 0, 0, 0, 0, 0, 0), (162, .bipush 60, 0, 0, 0, 0, 60, 0), (164, .iconst 3, 0, 0, 0, 0, 3, 0), (165, .iconst 0, 0, 0, 0, 0, 0, 0), (166, .invokevirtual 313, 79, 4, 9, 741, 0, 0), (169, .i2l, 0, 0, 0, 0, 0, 0), (170, .ladd, 0, 0, 0, 0, 0, 0), (171, .lstore_n 1, 0, 0, 0, 0, 0, 0), (172, .ldc2_w 285, 0, 0, 0, 722, 0, 31), (175, .lload_n 1, 0, 0, 0, 0, 0, 0), (176, .lmul, 0, 0, 0, 0, 0, 0), (177, .aload_n 0, 0, 0, 0, 0, 0, 0), (178, .bipush 60, 0, 0, 0, 0, 60, 0), (180, .iconst 3, 0, 0, 0, 0, 3, 0), (181, .iconst 1, 0, 0, 0, 0, 1, 0), (182, .invokevirtual 313, 79, 4, 9, 741, 0, 0), (185, .i2l, 0, 0, 0, 0, 0, 0), (186, .ladd, 0, 0, 0, 0, 0, 0), (187, .lstore_n 1, 0, 0, 0, 0, 0, 0), (188, .iconst 0, 0, 0, 0, 0, 0, 0), (189, .istore_n 3, 0, 0, 0, 0, 0, 0), (190, .iload_n 3, 0, 0, 0, 0, 0, 0), (191, .iconst 4, 0, 0, 0, 0, 4, 0), (192, .if_icmp .ge 35, 227, 0, 0, 0, 0, 0), (195, .ldc2_w 285, 0, 0, 0, 722, 0, 31), (198, .lload_n 1, 0, 0, 0, 0, 0, 0), (199, .lmul, 0, 0, 0, 0, 0, 0), (200, .aload_n 0, 0, 0, 0, 0, 0, 0), (201, .iload_n 3, 0, 0, 0, 0, 0, 0), (202, .iconst 0, 0, 0, 0, 0, 0, 0), (203, .invokevirtual 316, 80, 3, 9, 742, 0, 0), (206, .ladd, 0, 0, 0, 0, 0, 0), (207, .lstore_n 1, 0, 0, 0, 0, 0, 0), (208, .ldc2_w 285, 0, 0, 0, 722, 0, 31), (211, .lload_n 1, 0, 0, 0, 0, 0, 0), (212, .lmul, 0, 0, 0, 0, 0, 0), (213, .aload_n 0, 0, 0, 0, 0, 0, 0), (214, .iload_n 3, 0, 0, 0, 0, 0, 0), (215, .iconst 1, 0, 0, 0, 0, 1, 0), (216, .invokevirtual 316, 80, 3, 9, 742, 0, 0), (219, .ladd, 0, 0, 0, 0, 0, 0), (220, .lstore_n 1, 0, 0, 0, 0, 0, 0), (221, .iinc 3 1, 0, 0, 0, 0, 1, 0), (224, .goto (-34), 190, 0, 0, 0, 0, 0), (227, .ldc2_w 285, 0, 0, 0, 722, 0, 31), (230, .lload_n 1, 0, 0, 0, 0, 0, 0), (231, .lmul, 0, 0, 0, 0, 0, 0), (232, .aload_n 0, 0, 0, 0, 0, 0, 0), (233, .iconst 5, 0, 0, 0, 0, 5, 0), (234, .bipush 14, 0, 0, 0, 0, 14, 0), (236, .bipush 31, 0, 0, 0, 0, 31, 0), (238, .iconst 0, 0, 0, 0, 0, 0, 0), (239, .invokevirtual 320, 82, 5, 9, 743, 0, 0), (242, .i2l, 0, 0, 0, 0, 0, 0), (243, .ladd, 0, 0, 0, 0, 0, 0), (244, .lstore_n 1, 0, 0, 0, 0, 0, 0), (245, .ldc2_w 285, 0, 0, 0, 722, 0, 31), (248, .lload_n 1, 0, 0, 0, 0, 0, 0), (249, .lmul, 0, 0, 0, 0, 0, 0), (250, .aload_n 0, 0, 0, 0, 0, 0, 0), (251, .iconst 5, 0, 0, 0, 0, 5, 0), (252, .bipush 14, 0, 0, 0, 0, 14, 0), (254, .bipush 31, 0, 0, 0, 0, 31, 0), (256, .iconst 1, 0, 0, 0, 0, 1, 0), (257, .invokevirtual 320, 82, 5, 9, 743, 0, 0), (260, .i2l, 0, 0, 0, 0, 0, 0), (261, .ladd, 0, 0, 0, 0, 0, 0), (262, .lreturn, 0, 0, 0, 0, 0, 0)]
def cd_X9_goodsInto : List pm_R := [(0, .lload_n 1, 0, 0, 0, 0, 0, 0), (1, .lstore_n 3, 0, 0, 0, 0, 0, 0), (2, .iconst 0, 0, 0, 0, 0, 0, 0), (3, .istore 5, 0, 0, 0, 0, 0, 0), (5, .iload 5, 0, 0, 0, 0, 0, 0), (7, .aload_n 0, 0, 0, 0, 0, 0, 0), (8, .getfield 19, 9, 1, 0, 249, 0, 0), (11, .invokevirtual 189, 5, 1, 1, 345, 0, 0), (14, .if_icmp .ge 75, 89, 0, 0, 0, 0, 0), (17, .iconst 0, 0, 0, 0, 0, 0, 0), (18, .istore 6, 0, 0, 0, 0, 0, 0), (20, .iload 6, 0, 0, 0, 0, 0, 0), (22, .iconst 2, 0, 0, 0, 0, 2, 0), (23, .if_icmp .gt 25, 48, 0, 0, 0, 0, 0), (26, .ldc2_w 285, 0, 0, 0, 722, 0, 31), (29, .lload_n 3, 0, 0, 0, 0, 0, 0), (30, .lmul, 0, 0, 0, 0, 0, 0), (31, .aload_n 0, 0, 0, 0, 0, 0, 0), (32, .iload 5, 0, 0, 0, 0, 0, 0), (34, .iload 6, 0, 0, 0, 0, 0, 0), (36, .invokevirtual 324, 67, 3, 9, 729, 0, 0), (39, .i2l, 0, 0, 0, 0, 0, 0), (40, .ladd, 0, 0, 0, 0, 0, 0), (41, .lstore_n 3, 0, 0, 0, 0, 0, 0), (42, .iinc 6 1, 0, 0, 0, 0, 1, 0), (45, .goto (-25), 20, 0, 0, 0, 0, 0), (48, .ldc2_w 285, 0, 0, 0, 722, 0, 31), (51, .lload_n 3, 0, 0, 0, 0, 0, 0), (52, .lmul, 0, 0, 0, 0, 0, 0), (53, .aload_n 0, 0, 0, 0, 0, 0, 0), (54, .aload_n 0, 0, 0, 0, 0, 0, 0), (55, .iload 5, 0, 0, 0, 0, 0, 0), (57, .iconst 0, 0, 0, 0, 0, 0, 0), (58, .invokevirtual 324, 67, 3, 9, 729, 0, 0), (61, .invokevirtual 327, 71, 2, 9, 730, 0, 0), (64, .i2l, 0, 0, 0, 0, 0, 0), (65, .ladd, 0, 0, 0, 0, 0, 0), (66, .lstore_n 3, 0, 0, 0, 0, 0, 0), (67, .ldc2_w 285, 0, 0, 0, 722, 0, 31), (70, .lload_n 3, 0, 0, 0, 0, 0, 0), (71, .lmul, 0, 0, 0, 0, 0, 0), (72, .aload_n 0, 0, 0, 0, 0, 0, 0), (73, .iload 5, 0, 0, 0, 0, 0, 0), (75, .bipush 20, 0, 0, 0, 0, 20, 0), (77, .invokevirtual 330, 76, 3, 9, 731, 0, 0), (80, .i2l, 0, 0, 0, 0, 0, 0), (81, .ladd, 0, 0, 0, 0, 0, 0), (82, .lstore_n 3, 0, 0, 0, 0, 0, 0), (83, .iinc 5 1, 0, 0, 0, 0, 1, 0), (86, .goto (-81), 5, 0, 0, 0, 0, 0), (89, .lload_n 3, 0, 0, 0, 0, 0, 0), (90, .lreturn, 0, 0, 0, 0, 0, 0)]
def cd_X9_figuresInto : List pm_R := [(0, .lload_n 1, 0, 0, 0, 0, 0, 0), (1, .lstore_n 3, 0, 0, 0, 0, 0, 0), (2, .iconst 1, 0, 0, 0, 0, 1, 0), (3, .istore 5, 0, 0, 0, 0, 0, 0), (5, .iload 5, 0, 0, 0, 0, 0, 0), (7, .iconst 3, 0, 0, 0, 0, 3, 0), (8, .if_icmp .gt 40, 48, 0, 0, 0, 0, 0), (11, .iconst 0, 0, 0, 0, 0, 0, 0), (12, .istore 6, 0, 0, 0, 0, 0, 0), (14, .iload 6, 0, 0, 0, 0, 0, 0), (16, .iconst 3, 0, 0, 0, 0, 3, 0), (17, .if_icmp .gt 25, 42, 0, 0, 0, 0, 0), (20, .ldc2_w 285, 0, 0, 0, 722, 0, 31), (23, .lload_n 3, 0, 0, 0, 0, 0, 0), (24, .lmul, 0, 0, 0, 0, 0, 0), (25, .aload_n 0, 0, 0, 0, 0, 0, 0), (26, .iload 5, 0, 0, 0, 0, 0, 0), (28, .iload 6, 0, 0, 0, 0, 0, 0), (30, .invokevirtual 333, 78, 3, 9, 740, 0, 0), (33, .i2l, 0, 0, 0, 0, 0, 0), (34, .ladd, 0, 0, 0, 0, 0, 0), (35, .lstore_n 3, 0, 0, 0, 0, 0, 0), (36, .iinc 6 1, 0, 0, 0, 0, 1, 0), (39, .goto (-25), 14, 0, 0, 0, 0, 0), (42, .iinc 5 1, 0, 0, 0, 0, 1, 0), (45, .goto (-40), 5, 0, 0, 0, 0, 0), (48, .lload_n 3, 0, 0, 0, 0, 0, 0), (49, .lreturn, 0, 0, 0, 0, 0, 0)]
def cd_X9_finding : List pm_R := [(0, .aload_n 0, 0, 0, 0, 0, 0, 0), (1, .iload_n 1, 0, 0, 0, 0, 0, 0), (2, .putfield 80, 9, 10, 0, 258, 0, 0), (5, .bipush (-10), 0, 0, 0, 0, -10, 0), (7, .iload_n 1, 0, 0, 0, 0, 0, 0), (8, .isub, 0, 0, 0, 0, 0, 0), (9, .ireturn, 0, 0, 0, 0, 0, 0)]
def cd_X9_isGood : List pm_R := [(0, .iload_n 1, 0, 0, 0, 0, 0, 0), (1, .iconst 0, 0, 0, 0, 0, 0, 0), (2, .aload_n 0, 0, 0, 0, 0, 0, 0), (3, .getfield 19, 9, 1, 0, 249, 0, 0), (6, .invokevirtual 189, 5, 1, 1, 345, 0, 0), (9, .iconst 1, 0, 0, 0, 0, 1, 0), (10, .isub, 0, 0, 0, 0, 0, 0), (11, .invokestatic 84, 99, 3, 0, 286, 0, 0), (14, .ireturn, 0, 0, 0, 0, 0, 0)]
def cd_X9_isPartner : List pm_R := [(0, .iload_n 0, 0, 0, 0, 0, 0, 0), (1, .iconst 0, 0, 0, 0, 0, 0, 0), (2, .iconst 3, 0, 0, 0, 0, 3, 0), (3, .invokestatic 84, 99, 3, 0, 286, 0, 0), (6, .ireturn, 0, 0, 0, 0, 0, 0)]
def cd_X9_isNumber : List pm_R := [(0, .iload_n 0, 0, 0, 0, 0, 0, 0), (1, .iconst 0, 0, 0, 0, 0, 0, 0), (2, .sipush 9999, 0, 0, 0, 0, 9999, 0), (5, .invokestatic 84, 99, 3, 0, 286, 0, 0), (8, .ireturn, 0, 0, 0, 0, 0, 0)]
def cd_X9_isSheet : List pm_R := [(0, .iload_n 0, 0, 0, 0, 0, 0, 0), (1, .iconst 0, 0, 0, 0, 0, 0, 0), (2, .iconst 3, 0, 0, 0, 0, 3, 0), (3, .invokestatic 84, 99, 3, 0, 286, 0, 0), (6, .ireturn, 0, 0, 0, 0, 0, 0)]
def cd_X9_isForm : List pm_R := [(0, .iload_n 0, 0, 0, 0, 0, 0, 0), (1, .iconst 0, 0, 0, 0, 0, 0, 0), (2, .iconst 2, 0, 0, 0, 0, 2, 0), (3, .invokestatic 84, 99, 3, 0, 286, 0, 0), (6, .ireturn, 0, 0, 0, 0, 0, 0)]
def cd_X9_within : List pm_R := [(0, .iload_n 0, 0, 0, 0, 0, 0, 0), (1, .iload_n 1, 0, 0, 0, 0, 0, 0), (2, .if_icmp .lt 12, 14, 0, 0, 0, 0, 0), (5, .iload_n 0, 0, 0, 0, 0, 0, 0), (6, .iload_n 2, 0, 0, 0, 0, 0, 0), (7, .if_icmp .gt 7, 14, 0, 0, 0, 0, 0), (10, .iconst 1, 0, 0, 0, 0, 1, 0), (11, .goto 4, 15, 0, 0, 0, 0, 0), (14, .iconst 0, 0, 0, 0, 0, 0, 0), (15, .ireturn, 0, 0, 0, 0, 0, 0)]
def cd_X10_in : List pm_R := [(0, .lload_n 0, 0, 0, 0, 0, 0, 0), (1, .lload_n 2, 0, 0, 0, 0, 0, 0), (2, .lcmp, 0, 0, 0, 0, 0, 0), (3, .ifCond .lt 14, 17, 0, 0, 0, 0, 0), (6, .lload_n 0, 0, 0, 0, 0, 0, 0), (7, .lload 4, 0, 0, 0, 0, 0, 0), (9, .lcmp, 0, 0, 0, 0, 0, 0), (10, .ifCond .gt 7, 17, 0, 0, 0, 0, 0), (13, .iconst 1, 0, 0, 0, 0, 1, 0), (14, .goto 4, 18, 0, 0, 0, 0, 0), (17, .iconst 0, 0, 0, 0, 0, 0, 0), (18, .ireturn, 0, 0, 0, 0, 0, 0)]
def cd_X10_no : List pm_R := [(0, .ldc2_w 55, 0, 0, 0, 1038, 0, -9223372036854775808), (3, .iload_n 0, 0, 0, 0, 0, 0, 0), (4, .i2l, 0, 0, 0, 0, 0, 0), (5, .lsub, 0, 0, 0, 0, 0, 0), (6, .lreturn, 0, 0, 0, 0, 0, 0)]
def cd_X10_isTwo : List pm_R := [(0, .iload_n 0, 0, 0, 0, 0, 0, 0), (1, .i2l, 0, 0, 0, 0, 0, 0), (2, .lconst 0, 0, 0, 0, 0, 0, 0), (3, .lconst 1, 0, 0, 0, 0, 0, 1), (4, .invokestatic 57, 100, 3, 0, 819, 0, 0), (7, .ireturn, 0, 0, 0, 0, 0, 0)]
def cd_X10_isIn : List pm_R := [(0, .iload_n 0, 0, 0, 0, 0, 0, 0), (1, .iload_n 1, 0, 0, 0, 0, 0, 0), (2, .ishr, 0, 0, 0, 0, 0, 0), (3, .iconst 1, 0, 0, 0, 0, 1, 0), (4, .iand, 0, 0, 0, 0, 0, 0), (5, .iconst 1, 0, 0, 0, 0, 1, 0), (6, .if_icmp .ne 7, 13, 0, 0, 0, 0, 0), (9, .iconst 1, 0, 0, 0, 0, 1, 0), (10, .goto 4, 14, 0, 0, 0, 0, 0), (13, .iconst 0, 0, 0, 0, 0, 0, 0), (14, .ireturn, 0, 0, 0, 0, 0, 0)]
def cd_X10_ones : List pm_R := [(0, .iconst 0, 0, 0, 0, 0, 0, 0), (1, .istore_n 1, 0, 0, 0, 0, 0, 0), (2, .iload_n 0, 0, 0, 0, 0, 0, 0), (3, .istore_n 2, 0, 0, 0, 0, 0, 0), (4, .iload_n 2, 0, 0, 0, 0, 0, 0), (5, .ifCond .eq 15, 20, 0, 0, 0, 0, 0), (8, .iinc 1 1, 0, 0, 0, 0, 1, 0), (11, .iload_n 2, 0, 0, 0, 0, 0, 0), (12, .iload_n 2, 0, 0, 0, 0, 0, 0), (13, .iconst 1, 0, 0, 0, 0, 1, 0), (14, .isub, 0, 0, 0, 0, 0, 0), (15, .iand, 0, 0, 0, 0, 0, 0), (16, .istore_n 2, 0, 0, 0, 0, 0, 0), (17, .goto (-13), 4, 0, 0, 0, 0, 0), (20, .iload_n 1, 0, 0, 0, 0, 0, 0), (21, .ireturn, 0, 0, 0, 0, 0, 0)]
def cd_X10_met : List pm_R := [(0, .aload_n 0, 0, 0, 0, 0, 0, 0), (1, .iload_n 1, 0, 0, 0, 0, 0, 0), (2, .putfield 61, 10, 4, 0, 754, 0, 0), (5, .bipush (-10), 0, 0, 0, 0, -10, 0), (7, .iload_n 1, 0, 0, 0, 0, 0, 0), (8, .isub, 0, 0, 0, 0, 0, 0), (9, .ireturn, 0, 0, 0, 0, 0, 0)]
def cd_X10_isSheet : List pm_R := [(0, .iload_n 0, 0, 0, 0, 0, 0, 0), (1, .i2l, 0, 0, 0, 0, 0, 0), (2, .lconst 0, 0, 0, 0, 0, 0, 0), (3, .ldc2_w 65, 0, 0, 0, 818, 0, 3), (6, .invokestatic 57, 100, 3, 0, 819, 0, 0), (9, .ireturn, 0, 0, 0, 0, 0, 0)]
def cd_X10_sheet : List pm_R := [(0, .iload_n 1, 0, 0, 0, 0, 0, 0), (1, .invokestatic 67, 106, 1, 0, 815, 0, 0), (4, .ifCond .eq 21, 25, 0, 0, 0, 0, 0), (7, .iload_n 2, 0, 0, 0, 0, 0, 0), (8, .i2l, 0, 0, 0, 0, 0, 0), (9, .lconst 0, 0, 0, 0, 0, 0, 0), (10, .ldc2_w 71, 0, 0, 0, 822, 0, 2), (13, .invokestatic 57, 100, 3, 0, 819, 0, 0), (16, .ifCond .eq 9, 25, 0, 0, 0, 0, 0), (19, .iload_n 3, 0, 0, 0, 0, 0, 0), (20, .bipush 60, 0, 0, 0, 0, 60, 0), (22, .if_icmp .le 6, 28, 0, 0, 0, 0, 0), (25, .bipush (-2), 0, 0, 0, 0, -2, 0), (27, .ireturn, 0, 0, 0, 0, 0, 0), (28, .iload_n 3, 0, 0, 0, 0, 0, 0), (29, .ifCond .ge 9, 38, 0, 0, 0, 0, 0), (32, .aload_n 0, 0, 0, 0, 0, 0, 0), (33, .iconst 5, 0, 0, 0, 0, 5, 0), (34, .invokevirtual 73, 105, 2, 10, 823, 0, 0), (37, .ireturn, 0, 0, 0, 0, 0, 0), (38, .aload_n 0, 0, 0, 0, 0, 0, 0), (39, .getfield 7, 10, 0, 0, 750, 0, 0), (42, .iload_n 1, 0, 0, 0, 0, 0, 0), (43, .iload_n 2, 0, 0, 0, 0, 0, 0), (44, .iastore, 0, 0, 0, 0, 0, 0), (45, .aload_n 0, 0, 0, 0, 0, 0, 0), (46, .getfield 13, 10, 1, 0, 751, 0, 0), (49, .iload_n 1, 0, 0, 0, 0, 0, 0), (50, .iload_n 3, 0, 0, 0, 0, 0, 0), (51, .iastore, 0, 0, 0, 0, 0, 0), (52, .iconst 0, 0, 0, 0, 0, 0, 0), (53, .istore 4, 0, 0, 0, 0, 0, 0), (55, .iload 4, 0, 0, 0, 0, 0, 0), (57, .iload_n 3, 0, 0, 0, 0, 0, 0), (58, .if_icmp .ge 22, 80, 0, 0, 0, 0, 0), (61, .aload_n 0, 0, 0, 0, 0, 0, 0), (62, .getfield 16, 10, 2, 0, 752, 0, 0), (65, .bipush 60, 0, 0, 0, 0, 60, 0), (67, .iload_n 1, 0, 0, 0, 0, 0, 0), (68, .imul, 0, 0, 0, 0, 0, 0), (69, .iload 4, 0, 0, 0, 0, 0, 0), (71, .iadd, 0, 0, 0, 0, 0, 0), (72, .iconst 0, 0, 0, 0, 0, 0, 0), (73, .iastore, 0, 0, 0, 0, 0, 0), (74, .iinc 4 1, 0, 0, 0, 0, 1, 0), (77, .goto (-22), 55, 0, 0, 0, 0, 0), (80, .iload_n 3, 0, 0, 0, 0, 0, 0), (81, .ireturn, 0, 0, 0, 0, 0, 0)]
def cd_X10_lose : List pm_R := [(0, .iload_n 1, 0, 0, 0, 0, 0, 0), (1, .invokestatic 67, 106, 1, 0, 815, 0, 0), (4, .ifCond .ne 6, 10, 0, 0, 0, 0, 0), (7, .bipush (-2), 0, 0, 0, 0, -2, 0), (9, .ireturn, 0, 0, 0, 0, 0, 0), (10, .aload_n 0, 0, 0, 0, 0, 0, 0), (11, .getfield 7, 10, 0, 0, 750, 0, 0), (14, .iload_n 1, 0, 0, 0, 0, 0, 0), (15, .iaload, 0, 0, 0, 0, 0, 0), (16, .ifCond .ge 9, 25, 0, 0, 0, 0, 0), (19, .aload_n 0, 0, 0, 0, 0, 0, 0), (20, .iconst 1, 0, 0, 0, 0, 1, 0), (21, .invokevirtual 73, 105, 2, 10, 823, 0, 0), (24, .ireturn, 0, 0, 0, 0, 0, 0), (25, .aload_n 0, 0, 0, 0, 0, 0, 0), (26, .getfield 7, 10, 0, 0, 750, 0, 0), (29, .iload_n 1, 0, 0, 0, 0, 0, 0), (30, .iconst (-1), 0, 0, 0, 0, -1, 0), (31, .iastore, 0, 0, 0, 0, 0, 0), (32, .aload_n 0, 0, 0, 0, 0, 0, 0), (33, .getfield 13, 10, 1, 0, 751, 0, 0), (36, .iload_n 1, 0, 0, 0, 0, 0, 0), (37, .iaload, 0, 0, 0, 0, 0, 0), (38, .ireturn, 0, 0, 0, 0, 0, 0)]
def cd_X10_lacks : List pm_R := [(0, .aload_n 0, 0, 0, 0, 0, 0, 0), (1, .getfield 7, 10, 0, 0, 750, 0, 0), (4, .iload_n 1, 0, 0, 0, 0, 0, 0), (5, .iaload, 0, 0, 0, 0, 0, 0), (6, .ifCond .ge 9, 15, 0, 0, 0, 0, 0), (9, .aload_n 0, 0, 0, 0, 0, 0, 0), (10, .iconst 1, 0, 0, 0, 0, 1, 0), (11, .invokevirtual 73, 105, 2, 10, 823, 0, 0), (14, .ireturn, 0, 0, 0, 0, 0, 0), (15, .aload_n 0, 0, 0, 0, 0, 0, 0), (16, .getfield 7, 10, 0, 0, 750, 0, 0), (19, .iload_n 1, 0, 0, 0, 0, 0, 0), (20, .iaload, 0, 0, 0, 0, 0, 0), (21, .iload_n 2, 0, 0, 0, 0, 0, 0), (22, .if_icmp .eq 9, 31, 0, 0, 0, 0, 0), (25, .aload_n 0, 0, 0, 0, 0, 0, 0), (26, .iconst 3, 0, 0, 0, 0, 3, 0), (27, .invokevirtual 73, 105, 2, 10, 823, 0, 0), (30, .ireturn, 0, 0, 0, 0, 0, 0), (31, .iload_n 3, 0, 0, 0, 0, 0, 0), (32, .i2l, 0, 0, 0, 0, 0, 0), (33, .lconst 0, 0, 0, 0, 0, 0, 0), (34, .aload_n 0, 0, 0, 0, 0, 0, 0), (35, .getfield 13, 10, 1, 0, 751, 0, 0), (38, .iload_n 1, 0, 0, 0, 0, 0, 0), (39, .iaload, 0, 0, 0, 0, 0, 0), (40, .iconst 1, 0, 0, 0, 0, 1, 0), (41, .isub, 0, 0, 0, 0, 0, 0), (42, .i2l, 0, 0, 0, 0, 0, 0), (43, .invokestatic 57, 100, 3, 0, 819, 0, 0), (46, .ifCond .eq 7, 53, 0, 0, 0, 0, 0), (49, .iconst 0, 0, 0, 0, 0, 0, 0), (50, .goto 8, 58, 0, 0, 0, 0, 0), (53, .aload_n 0, 0, 0, 0, 0, 0, 0), (54, .iconst 2, 0, 0, 0, 0, 2, 0), (55, .invokevirtual 73, 105, 2, 10, 823, 0, 0), (58, .ireturn, 0, 0, 0, 0, 0, 0)]
def cd_X10_cut : List pm_R := [(0, .iload_n 0, 0, 0, 0, 0, 0, 0), (1, .ifCond .ne 8, 9, 0, 0, 0, 0, 0), (4, .iload_n 1, 0, 0, 0, 0, 0, 0), (5, .i2b, 0, 0, 0, 0, 0, 0), (6, .goto 14, 20, 0, 0, 0, 0, 0), (9, .iload_n 0, 0, 0, 0, 0, 0, 0), (10, .iconst 1, 0, 0, 0, 0, 1, 0), (11, .if_icmp .ne 8, 19, 0, 0, 0, 0, 0), (14, .iload_n 1, 0, 0, 0, 0, 0, 0), (15, .i2s, 0, 0, 0, 0, 0, 0), (16, .goto 4, 20, 0, 0, 0, 0, 0), (19, .iload_n 1, 0, 0, 0, 0, 0, 0), (20, .ireturn, 0, 0, 0, 0, 0, 0)]
def cd_X10_lay : List pm_R := [(0, .iload_n 1, 0, 0, 0, 0, 0, 0), (1, .invokestatic 67, 106, 1, 0, 815, 0, 0), (4, .ifCond .eq 15, 19, 0, 0, 0, 0, 0), (7, .iload_n 2, 0, 0, 0, 0, 0, 0), (8, .i2l, 0, 0, 0, 0, 0, 0), (9, .lconst 0, 0, 0, 0, 0, 0, 0), (10, .ldc2_w 71, 0, 0, 0, 822, 0, 2), (13, .invokestatic 57, 100, 3, 0, 819, 0, 0), (16, .ifCond .ne 6, 22, 0, 0, 0, 0, 0), (19, .bipush (-2), 0, 0, 0, 0, -2, 0), (21, .ireturn, 0, 0, 0, 0, 0, 0), (22, .aload_n 0, 0, 0, 0, 0, 0, 0), (23, .iload_n 1, 0, 0, 0, 0, 0, 0), (24, .iload_n 2, 0, 0, 0, 0, 0, 0), (25, .iload_n 3, 0, 0, 0, 0, 0, 0), (26, .invokevirtual 77, 109, 4, 10, 835, 0, 0), (29, .istore 5, 0, 0, 0, 0, 0, 0), (31, .iload 5, 0, 0, 0, 0, 0, 0), (33, .ifCond .eq 6, 39, 0, 0, 0, 0, 0), (36, .iload 5, 0, 0, 0, 0, 0, 0), (38, .ireturn, 0, 0, 0, 0, 0, 0), (39, .aload_n 0, 0, 0, 0, 0, 0, 0), (40, .getfield 16, 10, 2, 0, 752, 0, 0), (43, .bipush 60, 0, 0, 0, 0, 60, 0), (45, .iload_n 1, 0, 0, 0, 0, 0, 0), (46, .imul, 0, 0, 0, 0, 0, 0), (47, .iload_n 3, 0, 0, 0, 0, 0, 0), (48, .iadd, 0, 0, 0, 0, 0, 0), (49, .iload_n 2, 0, 0, 0, 0, 0, 0), (50, .iload 4, 0, 0, 0, 0, 0, 0), (52, .invokestatic 81, 110, 2, 0, 839, 0, 0), (55, .iastore, 0, 0, 0, 0, 0, 0), (56, .iconst 1, 0, 0, 0, 0, 1, 0), (57, .ireturn, 0, 0, 0, 0, 0, 0)]
def cd_X10_get : List pm_R := [(0, .iload_n 1, 0, 0, 0, 0, 0, 0), (1, .invokestatic 67, 106, 1, 0, 815, 0, 0), (4, .ifCond .eq 25, 29, 0, 0, 0, 0, 0), (7, .iload_n 2, 0, 0, 0, 0, 0, 0), (8, .i2l, 0, 0, 0, 0, 0, 0), (9, .lconst 0, 0, 0, 0, 0, 0, 0), (10, .ldc2_w 71, 0, 0, 0, 822, 0, 2), (13, .invokestatic 57, 100, 3, 0, 819, 0, 0), (16, .ifCond .eq 13, 29, 0, 0, 0, 0, 0), (19, .aload_n 0, 0, 0, 0, 0, 0, 0), (20, .iload_n 1, 0, 0, 0, 0, 0, 0), (21, .iload_n 2, 0, 0, 0, 0, 0, 0), (22, .iload_n 3, 0, 0, 0, 0, 0, 0), (23, .invokevirtual 77, 109, 4, 10, 835, 0, 0), (26, .ifCond .eq 6, 32, 0, 0, 0, 0, 0), (29, .ldc 85, 0, 0, 0, 846, -2147483648, 0), (31, .ireturn, 0, 0, 0, 0, 0, 0), (32, .aload_n 0, 0, 0, 0, 0, 0, 0), (33, .getfield 16, 10, 2, 0, 752, 0, 0), (36, .bipush 60, 0, 0, 0, 0, 60, 0), (38, .iload_n 1, 0, 0, 0, 0, 0, 0), (39, .imul, 0, 0, 0, 0, 0, 0), (40, .iload_n 3, 0, 0, 0, 0, 0, 0), (41, .iadd, 0, 0, 0, 0, 0, 0), (42, .iaload, 0, 0, 0, 0, 0, 0), (43, .ireturn, 0, 0, 0, 0, 0, 0)]
def cd_X10_copy : List pm_R := [(0, .iload_n 1, 0, 0, 0, 0, 0, 0), (1, .invokestatic 67, 106, 1, 0, 815, 0, 0), (4, .ifCond .eq 10, 14, 0, 0, 0, 0, 0), (7, .iload_n 3, 0, 0, 0, 0, 0, 0), (8, .invokestatic 67, 106, 1, 0, 815, 0, 0), (11, .ifCond .ne 6, 17, 0, 0, 0, 0, 0), (14, .bipush (-2), 0, 0, 0, 0, -2, 0), (16, .ireturn, 0, 0, 0, 0, 0, 0), (17, .aload_n 0, 0, 0, 0, 0, 0, 0), (18, .getfield 7, 10, 0, 0, 750, 0, 0), (21, .iload_n 1, 0, 0, 0, 0, 0, 0), (22, .iaload, 0, 0, 0, 0, 0, 0), (23, .ifCond .lt 12, 35, 0, 0, 0, 0, 0), (26, .aload_n 0, 0, 0, 0, 0, 0, 0), (27, .getfield 7, 10, 0, 0, 750, 0, 0), (30, .iload_n 3, 0, 0, 0, 0, 0, 0), (31, .iaload, 0, 0, 0, 0, 0, 0), (32, .ifCond .ge 9, 41, 0, 0, 0, 0, 0), (35, .aload_n 0, 0, 0, 0, 0, 0, 0), (36, .iconst 1, 0, 0, 0, 0, 1, 0), (37, .invokevirtual 73, 105, 2, 10, 823, 0, 0), (40, .ireturn, 0, 0, 0, 0, 0, 0), (41, .aload_n 0, 0, 0, 0, 0, 0, 0), (42, .getfield 7, 10, 0, 0, 750, 0, 0), (45, .iload_n 1, 0, 0, 0, 0, 0, 0), (46, .iaload, 0, 0, 0, 0, 0, 0), (47, .aload_n 0, 0, 0, 0, 0, 0, 0), (48, .getfield 7, 10, 0, 0, 750, 0, 0), (51, .iload_n 3, 0, 0, 0, 0, 0, 0), (52, .iaload, 0, 0, 0, 0, 0, 0), (53, .if_icmp .eq 9, 62, 0, 0, 0, 0, 0), (56, .aload_n 0, 0, 0, 0, 0, 0, 0), (57, .iconst 4, 0, 0, 0, 0, 4, 0), (58, .invokevirtual 73, 105, 2, 10, 823, 0, 0), (61, .ireturn, 0, 0, 0, 0, 0, 0), (62, .iload_n 2, 0, 0, 0, 0, 0, 0), (63, .ifCond .lt 48, 111, 0, 0, 0, 0, 0), (66, .iload 4, 0, 0, 0, 0, 0, 0), (68, .ifCond .lt 43, 111, 0, 0, 0, 0, 0), (71, .iload 5, 0, 0, 0, 0, 0, 0), (73, .ifCond .lt 38, 111, 0, 0, 0, 0, 0), (76, .iload_n 2, 0, 0, 0, 0, 0, 0), (77, .i2l, 0, 0, 0, 0, 0, 0), (78, .iload 5, 0, 0, 0, 0, 0, 0), (80, .i2l, 0, 0, 0, 0, 0, 0), (81, .ladd, 0, 0, 0, 0, 0, 0), (82, .aload_n 0, 0, 0, 0, 0, 0, 0), (83, .getfield 13, 10, 1, 0, 751, 0, 0), (86, .iload_n 1, 0, 0, 0, 0, 0, 0), (87, .iaload, 0, 0, 0, 0, 0, 0), (88, .i2l, 0, 0, 0, 0, 0, 0), (89, .lcmp, 0, 0, 0, 0, 0, 0), (90, .ifCond .gt 21, 111, 0, 0, 0, 0, 0), (93, .iload 4, 0, 0, 0, 0, 0, 0), (95, .i2l, 0, 0, 0, 0, 0, 0), (96, .iload 5, 0, 0, 0, 0, 0, 0), (98, .i2l, 0, 0, 0, 0, 0, 0), (99, .ladd, 0, 0, 0, 0, 0, 0), (100, .aload_n 0, 0, 0, 0, 0, 0, 0), (101, .getfield 13, 10, 1, 0, 751, 0, 0), (104, .iload_n 3, 0, 0, 0, 0, 0, 0), (105, .iaload, 0, 0, 0, 0, 0, 0), (106, .i2l, 0, 0, 0, 0, 0, 0), (107, .lcmp, 0, 0, 0, 0, 0, 0), (108, .ifCond .le 9, 117, 0, 0, 0, 0, 0), (111, .aload_n 0, 0, 0, 0, 0, 0, 0), (112, .iconst 2, 0, 0, 0, 0, 2, 0), (113, .invokevirtual 73, 105, 2, 10, 823, 0, 0), (116, .ireturn, 0, 0, 0, 0, 0, 0), (117, .iconst 0, 0, 0, 0, 0, 0, 0), (118, .istore 6, 0, 0, 0, 0, 0, 0), (120, .iload 6, 0, 0, 0, 0, 0, 0), (122, .iload 5, 0, 0, 0, 0, 0, 0), (124, .if_icmp .ge 30, 154, 0, 0, 0, 0, 0), (127, .aload_n 0, 0, 0, 0, 0, 0, 0), (128, .getfield 19, 10, 3, 0, 753, 0, 0), (131, .iload 6, 0, 0, 0, 0, 0, 0), (133, .aload_n 0, 0, 0, 0, 0, 0, 0), (134, .getfield 16, 10, 2, 0, 752, 0, 0), (137, .bipush 60, 0, 0, 0, 0, 60, 0), (139, .iload_n 1, 0, 0, 0, 0, 0, 0), (140, .imul, 0, 0, 0, 0, 0, 0), (141, .iload_n 2, 0, 0, 0, 0, 0, 0), (142, .iadd, 0, 0, 0, 0, 0, 0), (143, .iload 6, 0, 0, 0, 0, 0, 0), (145, .iadd, 0, 0, 0, 0, 0, 0), (146, .iaload, 0, 0, 0, 0, 0, 0), (147, .iastore, 0, 0, 0, 0, 0, 0), (148, .iinc 6 1, 0, 0, 0, 0, 1, 0), (151, .goto (-31), 120, 0, 0, 0, 0, 0), (154, .iconst 0, 0, 0, 0, 0, 0, 0), (155, .istore 6, 0, 0, 0, 0, 0, 0), (157, .iload 6, 0, 0, 0, 0, 0, 0), (159, .iload 5, 0, 0, 0, 0, 0, 0), (161, .if_icmp .ge 31, 192, 0, 0, 0, 0, 0), (164, .aload_n 0, 0, 0, 0, 0, 0, 0), (165, .getfield 16, 10, 2, 0, 752, 0, 0), (168, .bipush 60, 0, 0, 0, 0, 60, 0), (170, .iload_n 3, 0, 0, 0, 0, 0, 0), (171, .imul, 0, 0, 0, 0, 0, 0), (172, .iload 4, 0, 0, 0, 0, 0, 0), (174, .iadd, 0, 0, 0, 0, 0, 0), (175, .iload 6, 0, 0, 0, 0, 0, 0), (177, .iadd, 0, 0, 0, 0, 0, 0), (178, .aload_n 0, 0, 0, 0, 0, 0, 0), (179, .getfield 19, 10, 3, 0, 753, 0, 0), (182, .iload 6, 0, 0, 0, 0, 0, 0), (184, .iaload, 0, 0, 0, 0, 0, 0), (185, .iastore, 0, 0, 0, 0, 0, 0), (186, .iinc 6 1, 0, 0, 0, 0, 1, 0), (189, .goto (-32), 157, 0, 0, 0, 0, 0), (192, .iconst 1, 0, 0, 0, 0, 1, 0), (193, .ireturn, 0, 0, 0, 0, 0, 0)]
def cd_X10_type : List pm_R := [(0, .iload_n 1, 0, 0, 0, 0, 0, 0), (1, .i2l, 0, 0, 0, 0, 0, 0), (2, .lconst 0, 0, 0, 0, 0, 0, 0), (3, .ldc2_w 86, 0, 0, 0, 855, 0, 255), (6, .invokestatic 57, 100, 3, 0, 819, 0, 0), (9, .ifCond .ne 6, 15, 0, 0, 0, 0, 0), (12, .bipush (-2), 0, 0, 0, 0, -2, 0), (14, .ireturn, 0, 0, 0, 0, 0, 0), (15, .aload_n 0, 0, 0, 0, 0, 0, 0), (16, .getfield 88, 10, 6, 0, 756, 0, 0), (19, .bipush 50, 0, 0, 0, 0, 50, 0), (21, .if_icmp .ne 6, 27, 0, 0, 0, 0, 0), (24, .bipush (-4), 0, 0, 0, 0, -4, 0), (26, .ireturn, 0, 0, 0, 0, 0, 0), (27, .aload_n 0, 0, 0, 0, 0, 0, 0), (28, .getfield 22, 10, 5, 0, 755, 0, 0), (31, .aload_n 0, 0, 0, 0, 0, 0, 0), (32, .getfield 88, 10, 6, 0, 756, 0, 0), (35, .iload_n 1, 0, 0, 0, 0, 0, 0), (36, .iastore, 0, 0, 0, 0, 0, 0), (37, .aload_n 0, 0, 0, 0, 0, 0, 0), (38, .dup, 0, 0, 0, 0, 0, 0), (39, .getfield 88, 10, 6, 0, 756, 0, 0), (42, .iconst 1, 0, 0, 0, 0, 1, 0), (43, .iadd, 0, 0, 0, 0, 0, 0), (44, .putfield 88, 10, 6, 0, 756, 0, 0), (47, .aload_n 0, 0, 0, 0, 0, 0, 0), (48, .getfield 88, 10, 6, 0, 756, 0, 0), (51, .ireturn, 0, 0, 0, 0, 0, 0)]
def cd_X10_wipe : List pm_R := [(0, .aload_n 0, 0, 0, 0, 0, 0, 0), (1, .getfield 88, 10, 6, 0, 756, 0, 0), (4, .istore_n 1, 0, 0, 0, 0, 0, 0), (5, .aload_n 0, 0, 0, 0, 0, 0, 0), (6, .iconst 0, 0, 0, 0, 0, 0, 0), (7, .putfield 88, 10, 6, 0, 756, 0, 0), (10, .iload_n 1, 0, 0, 0, 0, 0, 0), (11, .ireturn, 0, 0, 0, 0, 0, 0)]
def cd_X10_here : List pm_R := [(0, .aload_n 0, 0, 0, 0, 0, 0, 0), (1, .getfield 91, 10, 7, 0, 757, 0, 0), (4, .aload_n 0, 0, 0, 0, 0, 0, 0), (5, .getfield 88, 10, 6, 0, 756, 0, 0), (8, .if_icmp .ge 15, 23, 0, 0, 0, 0, 0), (11, .aload_n 0, 0, 0, 0, 0, 0, 0), (12, .getfield 22, 10, 5, 0, 755, 0, 0), (15, .aload_n 0, 0, 0, 0, 0, 0, 0), (16, .getfield 91, 10, 7, 0, 757, 0, 0), (19, .iaload, 0, 0, 0, 0, 0, 0), (20, .goto 4, 24, 0, 0, 0, 0, 0), (23, .iconst (-1), 0, 0, 0, 0, -1, 0), (24, .ireturn, 0, 0, 0, 0, 0, 0)]
def cd_X10_none : List pm_R := [(0, .aload_n 0, 0, 0, 0, 0, 0, 0), (1, .iconst 0, 0, 0, 0, 0, 0, 0), (2, .putfield 94, 10, 8, 0, 758, 0, 0), (5, .aload_n 0, 0, 0, 0, 0, 0, 0), (6, .iconst 0, 0, 0, 0, 0, 0, 0), (7, .putfield 97, 10, 10, 0, 760, 0, 0), (10, .aload_n 0, 0, 0, 0, 0, 0, 0), (11, .getfield 91, 10, 7, 0, 757, 0, 0), (14, .ireturn, 0, 0, 0, 0, 0, 0)]
def cd_X10_readsPart : List pm_R := [(0, .aload_n 0, 0, 0, 0, 0, 0, 0), (1, .getfield 94, 10, 8, 0, 758, 0, 0), (4, .bipush 8, 0, 0, 0, 0, 8, 0), (6, .if_icmp .ne 5, 11, 0, 0, 0, 0, 0), (9, .iconst 0, 0, 0, 0, 0, 0, 0), (10, .ireturn, 0, 0, 0, 0, 0, 0), (11, .aload_n 0, 0, 0, 0, 0, 0, 0), (12, .getfield 91, 10, 7, 0, 757, 0, 0), (15, .istore_n 1, 0, 0, 0, 0, 0, 0), (16, .iconst 0, 0, 0, 0, 0, 0, 0), (17, .istore_n 2, 0, 0, 0, 0, 0, 0), (18, .aload_n 0, 0, 0, 0, 0, 0, 0), (19, .getfield 91, 10, 7, 0, 757, 0, 0), (22, .iload_n 1, 0, 0, 0, 0, 0, 0), (23, .iconst 3, 0, 0, 0, 0, 3, 0), (24, .iadd, 0, 0, 0, 0, 0, 0), (25, .if_icmp .ge 46, 71, 0, 0, 0, 0, 0), (28, .aload_n 0, 0, 0, 0, 0, 0, 0), (29, .invokevirtual 100, 116, 1, 10, 872, 0, 0), (32, .i2l, 0, 0, 0, 0, 0, 0), (33, .ldc2_w 104, 0, 0, 0, 876, 0, 48), (36, .ldc2_w 106, 0, 0, 0, 877, 0, 57), (39, .invokestatic 57, 100, 3, 0, 819, 0, 0), (42, .ifCond .eq 29, 71, 0, 0, 0, 0, 0), (45, .bipush 10, 0, 0, 0, 0, 10, 0), (47, .iload_n 2, 0, 0, 0, 0, 0, 0), (48, .imul, 0, 0, 0, 0, 0, 0), (49, .aload_n 0, 0, 0, 0, 0, 0, 0), (50, .invokevirtual 100, 116, 1, 10, 872, 0, 0), (53, .iadd, 0, 0, 0, 0, 0, 0), (54, .bipush 48, 0, 0, 0, 0, 48, 0), (56, .isub, 0, 0, 0, 0, 0, 0), (57, .istore_n 2, 0, 0, 0, 0, 0, 0), (58, .aload_n 0, 0, 0, 0, 0, 0, 0), (59, .dup, 0, 0, 0, 0, 0, 0), (60, .getfield 91, 10, 7, 0, 757, 0, 0), (63, .iconst 1, 0, 0, 0, 0, 1, 0), (64, .iadd, 0, 0, 0, 0, 0, 0), (65, .putfield 91, 10, 7, 0, 757, 0, 0), (68, .goto (-50), 18, 0, 0, 0, 0, 0), (71, .iload_n 2, 0, 0, 0, 0, 0, 0), (72, .ifCond .ne 10, 82, 0, 0, 0, 0, 0), (75, .aload_n 0, 0, 0, 0, 0, 0, 0), (76, .iload_n 1, 0, 0, 0, 0, 0, 0), (77, .putfield 91, 10, 7, 0, 757, 0, 0), (80, .iconst 0, 0, 0, 0, 0, 0, 0), (81, .ireturn, 0, 0, 0, 0, 0, 0), (82, .aload_n 0, 0, 0, 0, 0, 0, 0), (83, .invokevirtual 100, 116, 1, 10, 872, 0, 0), (86, .bipush 119, 0, 0, 0, 0, 119, 0), (88, .if_icmp .eq 14, 102, 0, 0, 0, 0, 0), (91, .aload_n 0, 0, 0, 0, 0, 0, 0), (92, .invokevirtual 100, 116, 1, 10, 872, 0, 0), (95, .bipush 116, 0, 0, 0, 0, 116, 0), (97, .if_icmp .eq 5, 102, 0, 0, 0, 0, 0), (100, .iconst 0, 0, 0, 0, 0, 0, 0), (101, .ireturn, 0, 0, 0, 0, 0, 0), (102, .aload_n 0, 0, 0, 0, 0, 0, 0), (103, .getfield 25, 10, 9, 0, 759, 0, 0), (106, .aload_n 0, 0, 0, 0, 0, 0, 0), (107, .getfield 94, 10, 8, 0, 758, 0, 0), (110, .iload_n 2, 0, 0, 0, 0, 0, 0), (111, .iastore, 0, 0, 0, 0, 0, 0), (112, .aload_n 0, 0, 0, 0, 0, 0, 0), (113, .dup, 0, 0, 0, 0, 0, 0), (114, .getfield 97, 10, 10, 0, 760, 0, 0), (117, .aload_n 0, 0, 0, 0, 0, 0, 0), (118, .invokevirtual 100, 116, 1, 10, 872, 0, 0), (121, .bipush 119, 0, 0, 0, 0, 119, 0), (123, .if_icmp .ne 12, 135, 0, 0, 0, 0, 0), (126, .iconst 1, 0, 0, 0, 0, 1, 0), (127, .aload_n 0, 0, 0, 0, 0, 0, 0), (128, .getfield 94, 10, 8, 0, 758, 0, 0), (131, .ishl, 0, 0, 0, 0, 0, 0), (132, .goto 4, 136, 0, 0, 0, 0, 0), (135, .iconst 0, 0, 0, 0, 0, 0, 0), (136, .ior, 0, 0, 0, 0, 0, 0), (137, .putfield 97, 10, 10, 0, 760, 0, 0), (140, .aload_n 0, 0, 0, 0, 0, 0, 0), (141, .dup, 0, 0, 0, 0, 0, 0), (142, .getfield 91, 10, 7, 0, 757, 0, 0), (145, .iconst 1, 0, 0, 0, 0, 1, 0), (146, .iadd, 0, 0, 0, 0, 0, 0), (147, .putfield 91, 10, 7, 0, 757, 0, 0), (150, .aload_n 0, 0, 0, 0, 0, 0, 0), (151, .dup, 0, 0, 0, 0, 0, 0), (152, .getfield 94, 10, 8, 0, 758, 0, 0), (155, .iconst 1, 0, 0, 0, 0, 1, 0), (156, .iadd, 0, 0, 0, 0, 0, 0), (157, .putfield 94, 10, 8, 0, 758, 0, 0), (160, .iconst 1, 0, 0, 0, 0, 1, 0), (161, .ireturn, 0, 0, 0, 0, 0, 0)]
def cd_X10_reads : List pm_R := [(0, .aload_n 0, 0, 0, 0, 0, 0, 0), (1, .iconst 0, 0, 0, 0, 0, 0, 0), (2, .putfield 91, 10, 7, 0, 757, 0, 0), (5, .aload_n 0, 0, 0, 0, 0, 0, 0), (6, .iconst 0, 0, 0, 0, 0, 0, 0), (7, .putfield 94, 10, 8, 0, 758, 0, 0), (10, .aload_n 0, 0, 0, 0, 0, 0, 0), (11, .iconst 0, 0, 0, 0, 0, 0, 0), (12, .putfield 97, 10, 10, 0, 760, 0, 0), (15, .aload_n 0, 0, 0, 0, 0, 0, 0), (16, .getfield 88, 10, 6, 0, 756, 0, 0), (19, .ifCond .le 7, 26, 0, 0, 0, 0, 0), (22, .iconst 1, 0, 0, 0, 0, 1, 0), (23, .goto 4, 27, 0, 0, 0, 0, 0), (26, .iconst 0, 0, 0, 0, 0, 0, 0), (27, .istore_n 1, 0, 0, 0, 0, 0, 0), (28, .iload_n 1, 0, 0, 0, 0, 0, 0), (29, .ifCond .eq 71, 100, 0, 0, 0, 0, 0), (32, .aload_n 0, 0, 0, 0, 0, 0, 0), (33, .invokevirtual 108, 118, 1, 10, 868, 0, 0), (36, .ifCond .ne 8, 44, 0, 0, 0, 0, 0), (39, .aload_n 0, 0, 0, 0, 0, 0, 0), (40, .invokevirtual 112, 117, 1, 10, 878, 0, 0), (43, .ireturn, 0, 0, 0, 0, 0, 0), (44, .aload_n 0, 0, 0, 0, 0, 0, 0), (45, .getfield 91, 10, 7, 0, 757, 0, 0), (48, .aload_n 0, 0, 0, 0, 0, 0, 0), (49, .getfield 88, 10, 6, 0, 756, 0, 0), (52, .if_icmp .ge 7, 59, 0, 0, 0, 0, 0), (55, .iconst 1, 0, 0, 0, 0, 1, 0), (56, .goto 4, 60, 0, 0, 0, 0, 0), (59, .iconst 0, 0, 0, 0, 0, 0, 0), (60, .istore_n 1, 0, 0, 0, 0, 0, 0), (61, .iload_n 1, 0, 0, 0, 0, 0, 0), (62, .ifCond .eq 17, 79, 0, 0, 0, 0, 0), (65, .aload_n 0, 0, 0, 0, 0, 0, 0), (66, .invokevirtual 100, 116, 1, 10, 872, 0, 0), (69, .bipush 59, 0, 0, 0, 0, 59, 0), (71, .if_icmp .eq 8, 79, 0, 0, 0, 0, 0), (74, .aload_n 0, 0, 0, 0, 0, 0, 0), (75, .invokevirtual 112, 117, 1, 10, 878, 0, 0), (78, .ireturn, 0, 0, 0, 0, 0, 0), (79, .aload_n 0, 0, 0, 0, 0, 0, 0), (80, .dup, 0, 0, 0, 0, 0, 0), (81, .getfield 91, 10, 7, 0, 757, 0, 0), (84, .iload_n 1, 0, 0, 0, 0, 0, 0), (85, .ifCond .eq 7, 92, 0, 0, 0, 0, 0), (88, .iconst 1, 0, 0, 0, 0, 1, 0), (89, .goto 4, 93, 0, 0, 0, 0, 0), (92, .iconst 0, 0, 0, 0, 0, 0, 0), (93, .iadd, 0, 0, 0, 0, 0, 0), (94, .putfield 91, 10, 7, 0, 757, 0, 0), (97, .goto (-69), 28, 0, 0, 0, 0, 0), (100, .iconst (-1), 0, 0, 0, 0, -1, 0), (101, .ireturn, 0, 0, 0, 0, 0, 0)]
def cd_X10_fault : List pm_R := [(0, .aload_n 0, 0, 0, 0, 0, 0, 0), (1, .invokevirtual 115, 119, 1, 10, 864, 0, 0), (4, .ireturn, 0, 0, 0, 0, 0, 0)]
def cd_X10_isGood : List pm_R := [(0, .aload_n 0, 0, 0, 0, 0, 0, 0), (1, .invokevirtual 115, 119, 1, 10, 864, 0, 0), (4, .pop, 0, 0, 0, 0, 0, 0), (5, .iload_n 1, 0, 0, 0, 0, 0, 0), (6, .i2l, 0, 0, 0, 0, 0, 0), (7, .lconst 0, 0, 0, 0, 0, 0, 0), (8, .aload_n 0, 0, 0, 0, 0, 0, 0), (9, .getfield 94, 10, 8, 0, 758, 0, 0), (12, .iconst 1, 0, 0, 0, 0, 1, 0), (13, .isub, 0, 0, 0, 0, 0, 0), (14, .i2l, 0, 0, 0, 0, 0, 0), (15, .invokestatic 57, 100, 3, 0, 819, 0, 0), (18, .ireturn, 0, 0, 0, 0, 0, 0)]
def cd_X10_goodOf : List pm_R := [(0, .iload_n 2, 0, 0, 0, 0, 0, 0), (1, .ifCond .ne 12, 13, 0, 0, 0, 0, 0), (4, .aload_n 0, 0, 0, 0, 0, 0, 0), (5, .getfield 25, 10, 9, 0, 759, 0, 0), (8, .iload_n 1, 0, 0, 0, 0, 0, 0), (9, .iaload, 0, 0, 0, 0, 0, 0), (10, .goto 25, 35, 0, 0, 0, 0, 0), (13, .iload_n 2, 0, 0, 0, 0, 0, 0), (14, .iconst 1, 0, 0, 0, 0, 1, 0), (15, .if_icmp .ne 14, 29, 0, 0, 0, 0, 0), (18, .aload_n 0, 0, 0, 0, 0, 0, 0), (19, .getfield 97, 10, 10, 0, 760, 0, 0), (22, .iload_n 1, 0, 0, 0, 0, 0, 0), (23, .ishr, 0, 0, 0, 0, 0, 0), (24, .iconst 1, 0, 0, 0, 0, 1, 0), (25, .iand, 0, 0, 0, 0, 0, 0), (26, .goto 9, 35, 0, 0, 0, 0, 0), (29, .aload_n 0, 0, 0, 0, 0, 0, 0), (30, .getfield 28, 10, 11, 0, 761, 0, 0), (33, .iload_n 1, 0, 0, 0, 0, 0, 0), (34, .iaload, 0, 0, 0, 0, 0, 0), (35, .ireturn, 0, 0, 0, 0, 0, 0)]
def cd_X10_good : List pm_R := [(0, .aload_n 0, 0, 0, 0, 0, 0, 0), (1, .iload_n 1, 0, 0, 0, 0, 0, 0), (2, .invokevirtual 118, 121, 2, 10, 886, 0, 0), (5, .ifCond .eq 24, 29, 0, 0, 0, 0, 0), (8, .iload_n 2, 0, 0, 0, 0, 0, 0), (9, .i2l, 0, 0, 0, 0, 0, 0), (10, .lconst 0, 0, 0, 0, 0, 0, 0), (11, .ldc2_w 71, 0, 0, 0, 822, 0, 2), (14, .invokestatic 57, 100, 3, 0, 819, 0, 0), (17, .ifCond .eq 12, 29, 0, 0, 0, 0, 0), (20, .aload_n 0, 0, 0, 0, 0, 0, 0), (21, .iload_n 1, 0, 0, 0, 0, 0, 0), (22, .iload_n 2, 0, 0, 0, 0, 0, 0), (23, .invokevirtual 121, 122, 3, 10, 890, 0, 0), (26, .goto 5, 31, 0, 0, 0, 0, 0), (29, .bipush (-2), 0, 0, 0, 0, -2, 0), (31, .ireturn, 0, 0, 0, 0, 0, 0)]
def cd_X10_set : List pm_R := [(0, .iload_n 1, 0, 0, 0, 0, 0, 0), (1, .ifCond .ne 7, 8, 0, 0, 0, 0, 0), (4, .iconst 2, 0, 0, 0, 0, 2, 0), (5, .goto 13, 18, 0, 0, 0, 0, 0), (8, .iload_n 1, 0, 0, 0, 0, 0, 0), (9, .iconst 3, 0, 0, 0, 0, 3, 0), (10, .if_icmp .ne 7, 17, 0, 0, 0, 0, 0), (13, .iconst 1, 0, 0, 0, 0, 1, 0), (14, .goto 4, 18, 0, 0, 0, 0, 0), (17, .iconst 0, 0, 0, 0, 0, 0, 0), (18, .istore_n 3, 0, 0, 0, 0, 0, 0), (19, .iload_n 1, 0, 0, 0, 0, 0, 0), (20, .ifCond .ne 8, 28, 0, 0, 0, 0, 0), (23, .bipush 36, 0, 0, 0, 0, 36, 0), (25, .goto 23, 48, 0, 0, 0, 0, 0), (28, .iload_n 1, 0, 0, 0, 0, 0, 0), (29, .iconst 1, 0, 0, 0, 0, 1, 0), (30, .if_icmp .ne 7, 37, 0, 0, 0, 0, 0), (33, .iconst 1, 0, 0, 0, 0, 1, 0), (34, .goto 14, 48, 0, 0, 0, 0, 0), (37, .iload_n 1, 0, 0, 0, 0, 0, 0), (38, .iconst 2, 0, 0, 0, 0, 2, 0), (39, .if_icmp .ne 8, 47, 0, 0, 0, 0, 0), (42, .bipush 99, 0, 0, 0, 0, 99, 0), (44, .goto 4, 48, 0, 0, 0, 0, 0), (47, .iconst 4, 0, 0, 0, 0, 4, 0), (48, .istore 4, 0, 0, 0, 0, 0, 0), (50, .iload_n 1, 0, 0, 0, 0, 0, 0), (51, .i2l, 0, 0, 0, 0, 0, 0), (52, .lconst 0, 0, 0, 0, 0, 0, 0), (53, .ldc2_w 65, 0, 0, 0, 818, 0, 3), (56, .invokestatic 57, 100, 3, 0, 819, 0, 0), (59, .ifCond .eq 16, 75, 0, 0, 0, 0, 0), (62, .iload_n 2, 0, 0, 0, 0, 0, 0), (63, .i2l, 0, 0, 0, 0, 0, 0), (64, .iload_n 3, 0, 0, 0, 0, 0, 0), (65, .i2l, 0, 0, 0, 0, 0, 0), (66, .iload 4, 0, 0, 0, 0, 0, 0), (68, .i2l, 0, 0, 0, 0, 0, 0), (69, .invokestatic 57, 100, 3, 0, 819, 0, 0), (72, .ifCond .ne 6, 78, 0, 0, 0, 0, 0), (75, .bipush (-2), 0, 0, 0, 0, -2, 0), (77, .ireturn, 0, 0, 0, 0, 0, 0), (78, .aload_n 0, 0, 0, 0, 0, 0, 0), (79, .getfield 31, 10, 12, 0, 762, 0, 0), (82, .iload_n 1, 0, 0, 0, 0, 0, 0), (83, .iaload, 0, 0, 0, 0, 0, 0), (84, .istore 5, 0, 0, 0, 0, 0, 0), (86, .aload_n 0, 0, 0, 0, 0, 0, 0), (87, .getfield 31, 10, 12, 0, 762, 0, 0), (90, .iload_n 1, 0, 0, 0, 0, 0, 0), (91, .iload_n 2, 0, 0, 0, 0, 0, 0), (92, .iastore, 0, 0, 0, 0, 0, 0), (93, .iload 5, 0, 0, 0, 0, 0, 0), (95, .ireturn, 0, 0, 0, 0, 0, 0)]
def cd_X10_isPartner : List pm_R := [(0, .iload_n 0, 0, 0, 0, 0, 0, 0), (1, .i2l, 0, 0, 0, 0, 0, 0), (2, .lconst 0, 0, 0, 0, 0, 0, 0), (3, .ldc2_w 65, 0, 0, 0, 818, 0, 3), (6, .invokestatic 57, 100, 3, 0, 819, 0, 0), (9, .ireturn, 0, 0, 0, 0, 0, 0)]
def cd_X10_partner : List pm_R := [(0, .iload_n 1, 0, 0, 0, 0, 0, 0), (1, .i2l, 0, 0, 0, 0, 0, 0), (2, .lconst 0, 0, 0, 0, 0, 0, 0), (3, .ldc2_w 124, 0, 0, 0, 902, 0, 7), (6, .invokestatic 57, 100, 3, 0, 819, 0, 0), (9, .ifCond .eq 10, 19, 0, 0, 0, 0, 0), (12, .iload_n 2, 0, 0, 0, 0, 0, 0), (13, .invokestatic 126, 125, 1, 0, 903, 0, 0), (16, .ifCond .ne 6, 22, 0, 0, 0, 0, 0), (19, .bipush (-2), 0, 0, 0, 0, -2, 0), (21, .ireturn, 0, 0, 0, 0, 0, 0), (22, .aload_n 0, 0, 0, 0, 0, 0, 0), (23, .getfield 28, 10, 11, 0, 761, 0, 0), (26, .iload_n 1, 0, 0, 0, 0, 0, 0), (27, .iaload, 0, 0, 0, 0, 0, 0), (28, .istore_n 3, 0, 0, 0, 0, 0, 0), (29, .aload_n 0, 0, 0, 0, 0, 0, 0), (30, .getfield 28, 10, 11, 0, 761, 0, 0), (33, .iload_n 1, 0, 0, 0, 0, 0, 0), (34, .iload_n 2, 0, 0, 0, 0, 0, 0), (35, .iastore, 0, 0, 0, 0, 0, 0), (36, .iload_n 3, 0, 0, 0, 0, 0, 0), (37, .ireturn, 0, 0, 0, 0, 0, 0)]
def cd_X10_read : List pm_R := [(0, .iload_n 1, 0, 0, 0, 0, 0, 0), (1, .invokestatic 67, 106, 1, 0, 815, 0, 0), (4, .ifCond .ne 6, 10, 0, 0, 0, 0, 0), (7, .bipush (-2), 0, 0, 0, 0, -2, 0), (9, .ireturn, 0, 0, 0, 0, 0, 0), (10, .aload_n 0, 0, 0, 0, 0, 0, 0), (11, .getfield 7, 10, 0, 0, 750, 0, 0), (14, .iload_n 1, 0, 0, 0, 0, 0, 0), (15, .iaload, 0, 0, 0, 0, 0, 0), (16, .ifCond .ge 9, 25, 0, 0, 0, 0, 0), (19, .aload_n 0, 0, 0, 0, 0, 0, 0), (20, .iconst 1, 0, 0, 0, 0, 1, 0), (21, .invokevirtual 73, 105, 2, 10, 823, 0, 0), (24, .ireturn, 0, 0, 0, 0, 0, 0), (25, .iconst 0, 0, 0, 0, 0, 0, 0), (26, .istore_n 2, 0, 0, 0, 0, 0, 0), (27, .iload_n 2, 0, 0, 0, 0, 0, 0), (28, .aload_n 0, 0, 0, 0, 0, 0, 0), (29, .getfield 13, 10, 1, 0, 751, 0, 0), (32, .iload_n 1, 0, 0, 0, 0, 0, 0), (33, .iaload, 0, 0, 0, 0, 0, 0), (34, .if_icmp .ge 28, 62, 0, 0, 0, 0, 0), (37, .aload_n 0, 0, 0, 0, 0, 0, 0), (38, .iload_n 2, 0, 0, 0, 0, 0, 0), (39, .aload_n 0, 0, 0, 0, 0, 0, 0), (40, .getfield 16, 10, 2, 0, 752, 0, 0), (43, .bipush 60, 0, 0, 0, 0, 60, 0), (45, .iload_n 1, 0, 0, 0, 0, 0, 0), (46, .imul, 0, 0, 0, 0, 0, 0), (47, .iload_n 2, 0, 0, 0, 0, 0, 0), (48, .iadd, 0, 0, 0, 0, 0, 0), (49, .iaload, 0, 0, 0, 0, 0, 0), (50, .invokevirtual 129, 126, 3, 10, 910, 0, 0), (53, .ifCond .lt 9, 62, 0, 0, 0, 0, 0), (56, .iinc 2 1, 0, 0, 0, 0, 1, 0), (59, .goto (-32), 27, 0, 0, 0, 0, 0), (62, .iload_n 2, 0, 0, 0, 0, 0, 0), (63, .ireturn, 0, 0, 0, 0, 0, 0)]
def cd_X10_paidFor : List pm_R := [(0, .aload_n 0, 0, 0, 0, 0, 0, 0), (1, .getfield 31, 10, 12, 0, 762, 0, 0), (4, .iconst 0, 0, 0, 0, 0, 0, 0), (5, .iaload, 0, 0, 0, 0, 0, 0), (6, .istore_n 2, 0, 0, 0, 0, 0, 0), (7, .iload_n 1, 0, 0, 0, 0, 0, 0), (8, .istore_n 3, 0, 0, 0, 0, 0, 0), (9, .iconst 1, 0, 0, 0, 0, 1, 0), (10, .istore 4, 0, 0, 0, 0, 0, 0), (12, .iload_n 3, 0, 0, 0, 0, 0, 0), (13, .ifCond .le 36, 49, 0, 0, 0, 0, 0), (16, .iload_n 3, 0, 0, 0, 0, 0, 0), (17, .iload_n 2, 0, 0, 0, 0, 0, 0), (18, .irem, 0, 0, 0, 0, 0, 0), (19, .ifCond .ne 30, 49, 0, 0, 0, 0, 0), (22, .iload_n 3, 0, 0, 0, 0, 0, 0), (23, .iload_n 2, 0, 0, 0, 0, 0, 0), (24, .idiv, 0, 0, 0, 0, 0, 0), (25, .istore_n 3, 0, 0, 0, 0, 0, 0), (26, .iload 4, 0, 0, 0, 0, 0, 0), (28, .aload_n 0, 0, 0, 0, 0, 0, 0), (29, .getfield 31, 10, 12, 0, 762, 0, 0), (32, .iconst 1, 0, 0, 0, 0, 1, 0), (33, .iaload, 0, 0, 0, 0, 0, 0), (34, .iconst 1, 0, 0, 0, 0, 1, 0), (35, .if_icmp .ne 7, 42, 0, 0, 0, 0, 0), (38, .iload_n 2, 0, 0, 0, 0, 0, 0), (39, .goto 4, 43, 0, 0, 0, 0, 0), (42, .iconst 1, 0, 0, 0, 0, 1, 0), (43, .imul, 0, 0, 0, 0, 0, 0), (44, .istore 4, 0, 0, 0, 0, 0, 0), (46, .goto (-34), 12, 0, 0, 0, 0, 0), (49, .iconst 0, 0, 0, 0, 0, 0, 0), (50, .istore 5, 0, 0, 0, 0, 0, 0), (52, .iload_n 3, 0, 0, 0, 0, 0, 0), (53, .ifCond .le 20, 73, 0, 0, 0, 0, 0), (56, .iload_n 2, 0, 0, 0, 0, 0, 0), (57, .iload 5, 0, 0, 0, 0, 0, 0), (59, .imul, 0, 0, 0, 0, 0, 0), (60, .iload_n 3, 0, 0, 0, 0, 0, 0), (61, .iload_n 2, 0, 0, 0, 0, 0, 0), (62, .irem, 0, 0, 0, 0, 0, 0), (63, .iadd, 0, 0, 0, 0, 0, 0), (64, .istore 5, 0, 0, 0, 0, 0, 0), (66, .iload_n 3, 0, 0, 0, 0, 0, 0), (67, .iload_n 2, 0, 0, 0, 0, 0, 0), (68, .idiv, 0, 0, 0, 0, 0, 0), (69, .istore_n 3, 0, 0, 0, 0, 0, 0), (70, .goto (-18), 52, 0, 0, 0, 0, 0), (73, .iload 5, 0, 0, 0, 0, 0, 0), (75, .iload 4, 0, 0, 0, 0, 0, 0), (77, .imul, 0, 0, 0, 0, 0, 0), (78, .ireturn, 0, 0, 0, 0, 0, 0)]
def cd_X10_isNumber : List pm_R := [(0, .iload_n 0, 0, 0, 0, 0, 0, 0), (1, .i2l, 0, 0, 0, 0, 0, 0), (2, .lconst 0, 0, 0, 0, 0, 0, 0), (3, .ldc2_w 132, 0, 0, 0, 918, 0, 9999), (6, .invokestatic 57, 100, 3, 0, 819, 0, 0), (9, .ireturn, 0, 0, 0, 0, 0, 0)]
def cd_X10_paid : List pm_R := [(0, .iload_n 1, 0, 0, 0, 0, 0, 0), (1, .invokestatic 134, 129, 1, 0, 915, 0, 0), (4, .ifCond .eq 11, 15, 0, 0, 0, 0, 0), (7, .aload_n 0, 0, 0, 0, 0, 0, 0), (8, .iload_n 1, 0, 0, 0, 0, 0, 0), (9, .invokevirtual 137, 128, 2, 10, 919, 0, 0), (12, .goto 5, 17, 0, 0, 0, 0, 0), (15, .bipush (-2), 0, 0, 0, 0, -2, 0), (17, .ireturn, 0, 0, 0, 0, 0, 0)]
def cd_X10_sumOf : List pm_R := [(0, .iconst 0, 0, 0, 0, 0, 0, 0), (1, .istore_n 2, 0, 0, 0, 0, 0, 0), (2, .iconst 0, 0, 0, 0, 0, 0, 0), (3, .istore_n 3, 0, 0, 0, 0, 0, 0), (4, .iload_n 3, 0, 0, 0, 0, 0, 0), (5, .aload_n 0, 0, 0, 0, 0, 0, 0), (6, .getfield 94, 10, 8, 0, 758, 0, 0), (9, .if_icmp .ge 30, 39, 0, 0, 0, 0, 0), (12, .iload_n 2, 0, 0, 0, 0, 0, 0), (13, .iload_n 1, 0, 0, 0, 0, 0, 0), (14, .iload_n 3, 0, 0, 0, 0, 0, 0), (15, .invokestatic 140, 103, 2, 0, 938, 0, 0), (18, .ifCond .eq 12, 30, 0, 0, 0, 0, 0), (21, .aload_n 0, 0, 0, 0, 0, 0, 0), (22, .getfield 25, 10, 9, 0, 759, 0, 0), (25, .iload_n 3, 0, 0, 0, 0, 0, 0), (26, .iaload, 0, 0, 0, 0, 0, 0), (27, .goto 4, 31, 0, 0, 0, 0, 0), (30, .iconst 0, 0, 0, 0, 0, 0, 0), (31, .iadd, 0, 0, 0, 0, 0, 0), (32, .istore_n 2, 0, 0, 0, 0, 0, 0), (33, .iinc 3 1, 0, 0, 0, 0, 1, 0), (36, .goto (-32), 4, 0, 0, 0, 0, 0), (39, .iload_n 2, 0, 0, 0, 0, 0, 0), (40, .ireturn, 0, 0, 0, 0, 0, 0)]
def cd_X10_whole : List pm_R := [(0, .iconst 1, 0, 0, 0, 0, 1, 0), (1, .aload_n 0, 0, 0, 0, 0, 0, 0), (2, .getfield 94, 10, 8, 0, 758, 0, 0), (5, .ishl, 0, 0, 0, 0, 0, 0), (6, .iconst 1, 0, 0, 0, 0, 1, 0), (7, .isub, 0, 0, 0, 0, 0, 0), (8, .ireturn, 0, 0, 0, 0, 0, 0)]
def cd_X10_bill : List pm_R := [(0, .aload_n 0, 0, 0, 0, 0, 0, 0), (1, .invokevirtual 115, 119, 1, 10, 864, 0, 0), (4, .pop, 0, 0, 0, 0, 0, 0), (5, .iload_n 1, 0, 0, 0, 0, 0, 0), (6, .i2l, 0, 0, 0, 0, 0, 0), (7, .lconst 1, 0, 0, 0, 0, 0, 1), (8, .aload_n 0, 0, 0, 0, 0, 0, 0), (9, .invokevirtual 144, 132, 1, 10, 927, 0, 0), (12, .i2l, 0, 0, 0, 0, 0, 0), (13, .invokestatic 57, 100, 3, 0, 819, 0, 0), (16, .ifCond .eq 10, 26, 0, 0, 0, 0, 0), (19, .iload_n 2, 0, 0, 0, 0, 0, 0), (20, .invokestatic 147, 102, 1, 0, 931, 0, 0), (23, .ifCond .ne 6, 29, 0, 0, 0, 0, 0), (26, .bipush (-2), 0, 0, 0, 0, -2, 0), (28, .ireturn, 0, 0, 0, 0, 0, 0), (29, .iload_n 2, 0, 0, 0, 0, 0, 0), (30, .ifCond .ne 11, 41, 0, 0, 0, 0, 0), (33, .aload_n 0, 0, 0, 0, 0, 0, 0), (34, .iload_n 1, 0, 0, 0, 0, 0, 0), (35, .invokevirtual 150, 131, 2, 10, 934, 0, 0), (38, .goto 12, 50, 0, 0, 0, 0, 0), (41, .aload_n 0, 0, 0, 0, 0, 0, 0), (42, .aload_n 0, 0, 0, 0, 0, 0, 0), (43, .iload_n 1, 0, 0, 0, 0, 0, 0), (44, .invokevirtual 150, 131, 2, 10, 934, 0, 0), (47, .invokevirtual 137, 128, 2, 10, 919, 0, 0), (50, .ireturn, 0, 0, 0, 0, 0, 0)]
def cd_X10_findBills : List pm_R := [(0, .iconst 0, 0, 0, 0, 0, 0, 0), (1, .istore_n 1, 0, 0, 0, 0, 0, 0), (2, .iload_n 1, 0, 0, 0, 0, 0, 0), (3, .aload_n 0, 0, 0, 0, 0, 0, 0), (4, .invokevirtual 144, 132, 1, 10, 927, 0, 0), (7, .if_icmp .gt 62, 69, 0, 0, 0, 0, 0), (10, .aload_n 0, 0, 0, 0, 0, 0, 0), (11, .getfield 40, 10, 15, 0, 765, 0, 0), (14, .iload_n 1, 0, 0, 0, 0, 0, 0), (15, .aload_n 0, 0, 0, 0, 0, 0, 0), (16, .aload_n 0, 0, 0, 0, 0, 0, 0), (17, .iload_n 1, 0, 0, 0, 0, 0, 0), (18, .invokevirtual 150, 131, 2, 10, 934, 0, 0), (21, .invokevirtual 137, 128, 2, 10, 919, 0, 0), (24, .aload_n 0, 0, 0, 0, 0, 0, 0), (25, .getfield 31, 10, 12, 0, 762, 0, 0), (28, .iconst 2, 0, 0, 0, 0, 2, 0), (29, .iaload, 0, 0, 0, 0, 0, 0), (30, .iadd, 0, 0, 0, 0, 0, 0), (31, .iastore, 0, 0, 0, 0, 0, 0), (32, .aload_n 0, 0, 0, 0, 0, 0, 0), (33, .getfield 34, 10, 13, 0, 763, 0, 0), (36, .iload_n 1, 0, 0, 0, 0, 0, 0), (37, .iload_n 1, 0, 0, 0, 0, 0, 0), (38, .ifCond .ne 7, 45, 0, 0, 0, 0, 0), (41, .iconst 0, 0, 0, 0, 0, 0, 0), (42, .goto 5, 47, 0, 0, 0, 0, 0), (45, .ldc 153, 0, 0, 0, 953, 100000000, 0), (47, .iastore, 0, 0, 0, 0, 0, 0), (48, .aload_n 0, 0, 0, 0, 0, 0, 0), (49, .getfield 37, 10, 14, 0, 764, 0, 0), (52, .iload_n 1, 0, 0, 0, 0, 0, 0), (53, .iload_n 1, 0, 0, 0, 0, 0, 0), (54, .ifCond .ne 7, 61, 0, 0, 0, 0, 0), (57, .iconst 0, 0, 0, 0, 0, 0, 0), (58, .goto 4, 62, 0, 0, 0, 0, 0), (61, .iconst (-1), 0, 0, 0, 0, -1, 0), (62, .iastore, 0, 0, 0, 0, 0, 0), (63, .iinc 1 1, 0, 0, 0, 0, 1, 0), (66, .goto (-64), 2, 0, 0, 0, 0, 0), (69, .iconst 1, 0, 0, 0, 0, 1, 0), (70, .istore_n 1, 0, 0, 0, 0, 0, 0), (71, .iload_n 1, 0, 0, 0, 0, 0, 0), (72, .aload_n 0, 0, 0, 0, 0, 0, 0), (73, .getfield 31, 10, 12, 0, 762, 0, 0), (76, .iconst 3, 0, 0, 0, 0, 3, 0), (77, .iaload, 0, 0, 0, 0, 0, 0), (78, .if_icmp .gt 215, 293, 0, 0, 0, 0, 0), (81, .iconst 0, 0, 0, 0, 0, 0, 0), (82, .istore_n 2, 0, 0, 0, 0, 0, 0), (83, .iload_n 2, 0, 0, 0, 0, 0, 0), (84, .aload_n 0, 0, 0, 0, 0, 0, 0), (85, .invokevirtual 144, 132, 1, 10, 927, 0, 0), (88, .if_icmp .gt 199, 287, 0, 0, 0, 0, 0), (91, .sipush 256, 0, 0, 0, 0, 256, 0), (94, .iload_n 1, 0, 0, 0, 0, 0, 0), (95, .imul, 0, 0, 0, 0, 0, 0), (96, .iload_n 2, 0, 0, 0, 0, 0, 0), (97, .iadd, 0, 0, 0, 0, 0, 0), (98, .istore_n 3, 0, 0, 0, 0, 0, 0), (99, .aload_n 0, 0, 0, 0, 0, 0, 0), (100, .getfield 34, 10, 13, 0, 763, 0, 0), (103, .iload_n 3, 0, 0, 0, 0, 0, 0), (104, .ldc 153, 0, 0, 0, 953, 100000000, 0), (106, .iastore, 0, 0, 0, 0, 0, 0), (107, .aload_n 0, 0, 0, 0, 0, 0, 0), (108, .getfield 37, 10, 14, 0, 764, 0, 0), (111, .iload_n 3, 0, 0, 0, 0, 0, 0), (112, .iconst (-1), 0, 0, 0, 0, -1, 0), (113, .iastore, 0, 0, 0, 0, 0, 0), (114, .iload_n 2, 0, 0, 0, 0, 0, 0), (115, .iload_n 2, 0, 0, 0, 0, 0, 0), (116, .ineg, 0, 0, 0, 0, 0, 0), (117, .iand, 0, 0, 0, 0, 0, 0), (118, .istore 4, 0, 0, 0, 0, 0, 0), (120, .iload_n 2, 0, 0, 0, 0, 0, 0), (121, .istore 5, 0, 0, 0, 0, 0, 0), (123, .iload 5, 0, 0, 0, 0, 0, 0), (125, .ifCond .le 156, 281, 0, 0, 0, 0, 0), (128, .sipush 256, 0, 0, 0, 0, 256, 0), (131, .iload_n 1, 0, 0, 0, 0, 0, 0), (132, .iconst 1, 0, 0, 0, 0, 1, 0), (133, .isub, 0, 0, 0, 0, 0, 0), (134, .imul, 0, 0, 0, 0, 0, 0), (135, .iload_n 2, 0, 0, 0, 0, 0, 0), (136, .iload 5, 0, 0, 0, 0, 0, 0), (138, .iconst (-1), 0, 0, 0, 0, -1, 0), (139, .ixor, 0, 0, 0, 0, 0, 0), (140, .iand, 0, 0, 0, 0, 0, 0), (141, .iadd, 0, 0, 0, 0, 0, 0), (142, .istore 6, 0, 0, 0, 0, 0, 0), (144, .iload 5, 0, 0, 0, 0, 0, 0), (146, .iload 4, 0, 0, 0, 0, 0, 0), (148, .iand, 0, 0, 0, 0, 0, 0), (149, .ifCond .eq 121, 270, 0, 0, 0, 0, 0), (152, .aload_n 0, 0, 0, 0, 0, 0, 0), (153, .getfield 37, 10, 14, 0, 764, 0, 0), (156, .iload 6, 0, 0, 0, 0, 0, 0), (158, .iaload, 0, 0, 0, 0, 0, 0), (159, .ifCond .lt 111, 270, 0, 0, 0, 0, 0), (162, .aload_n 0, 0, 0, 0, 0, 0, 0), (163, .getfield 34, 10, 13, 0, 763, 0, 0), (166, .iload_n 3, 0, 0, 0, 0, 0, 0), (167, .aload_n 0, 0, 0, 0, 0, 0, 0), (168, .getfield 40, 10, 15, 0, 765, 0, 0), (171, .iload 5, 0, 0, 0, 0, 0, 0), (173, .iaload, 0, 0, 0, 0, 0, 0), (174, .aload_n 0, 0, 0, 0, 0, 0, 0), (175, .getfield 34, 10, 13, 0, 763, 0, 0), (178, .iload 6, 0, 0, 0, 0, 0, 0), (180, .iaload, 0, 0, 0, 0, 0, 0), (181, .iadd, 0, 0, 0, 0, 0, 0), (182, .aload_n 0, 0, 0, 0, 0, 0, 0), (183, .getfield 34, 10, 13, 0, 763, 0, 0), (186, .iload_n 3, 0, 0, 0, 0, 0, 0), (187, .iaload, 0, 0, 0, 0, 0, 0), (188, .if_icmp .ge 21, 209, 0, 0, 0, 0, 0), (191, .aload_n 0, 0, 0, 0, 0, 0, 0), (192, .getfield 40, 10, 15, 0, 765, 0, 0), (195, .iload 5, 0, 0, 0, 0, 0, 0), (197, .iaload, 0, 0, 0, 0, 0, 0), (198, .aload_n 0, 0, 0, 0, 0, 0, 0), (199, .getfield 34, 10, 13, 0, 763, 0, 0), (202, .iload 6, 0, 0, 0, 0, 0, 0), (204, .iaload, 0, 0, 0, 0, 0, 0), (205, .iadd, 0, 0, 0, 0, 0, 0), (206, .goto 9, 215, 0, 0, 0, 0, 0), (209, .aload_n 0, 0, 0, 0, 0, 0, 0), (210, .getfield 34, 10, 13, 0, 763, 0, 0), (213, .iload_n 3, 0, 0, 0, 0, 0, 0), (214, .iaload, 0, 0, 0, 0, 0, 0), (215, .iastore, 0, 0, 0, 0, 0, 0), (216, .aload_n 0, 0, 0, 0, 0, 0, 0), (217, .getfield 37, 10, 14, 0, 764, 0, 0), (220, .iload_n 3, 0, 0, 0, 0, 0, 0), (221, .aload_n 0, 0, 0, 0, 0, 0, 0), (222, .getfield 40, 10, 15, 0, 765, 0, 0), (225, .iload 5, 0, 0, 0, 0, 0, 0), (227, .iaload, 0, 0, 0, 0, 0, 0), (228, .aload_n 0, 0, 0, 0, 0, 0, 0), (229, .getfield 37, 10, 14, 0, 764, 0, 0), (232, .iload 6, 0, 0, 0, 0, 0, 0), (234, .iaload, 0, 0, 0, 0, 0, 0), (235, .iadd, 0, 0, 0, 0, 0, 0), (236, .aload_n 0, 0, 0, 0, 0, 0, 0), (237, .getfield 37, 10, 14, 0, 764, 0, 0), (240, .iload_n 3, 0, 0, 0, 0, 0, 0), (241, .iaload, 0, 0, 0, 0, 0, 0), (242, .if_icmp .le 21, 263, 0, 0, 0, 0, 0), (245, .aload_n 0, 0, 0, 0, 0, 0, 0), (246, .getfield 40, 10, 15, 0, 765, 0, 0), (249, .iload 5, 0, 0, 0, 0, 0, 0), (251, .iaload, 0, 0, 0, 0, 0, 0), (252, .aload_n 0, 0, 0, 0, 0, 0, 0), (253, .getfield 37, 10, 14, 0, 764, 0, 0), (256, .iload 6, 0, 0, 0, 0, 0, 0), (258, .iaload, 0, 0, 0, 0, 0, 0), (259, .iadd, 0, 0, 0, 0, 0, 0), (260, .goto 9, 269, 0, 0, 0, 0, 0), (263, .aload_n 0, 0, 0, 0, 0, 0, 0), (264, .getfield 37, 10, 14, 0, 764, 0, 0), (267, .iload_n 3, 0, 0, 0, 0, 0, 0), (268, .iaload, 0, 0, 0, 0, 0, 0), (269, .iastore, 0, 0, 0, 0, 0, 0), (270, .iload 5, 0, 0, 0, 0, 0, 0), (272, .iconst 1, 0, 0, 0, 0, 1, 0), (273, .isub, 0, 0, 0, 0, 0, 0), (274, .iload_n 2, 0, 0, 0, 0, 0, 0), (275, .iand, 0, 0, 0, 0, 0, 0), (276, .istore 5, 0, 0, 0, 0, 0, 0), (278, .goto (-155), 123, 0, 0, 0, 0, 0), (281, .iinc 2 1, 0, 0, 0, 0, 1, 0), (284, .goto (-201), 83, 0, 0, 0, 0, 0), (287, .iinc 1 1, 0, 0, 0, 0, 1, 0), (290, .goto (-219), 71, 0, 0, 0, 0, 0), (293, .return_, 0, 0, 0, 0, 0, 0)]
def cd_X10_boughtOf : List pm_R := [(0, .aload_n 0, 0, 0, 0, 0, 0, 0), (1, .invokevirtual 154, 134, 1, 10, 949, 0, 0), (4, .ldc 153, 0, 0, 0, 953, 100000000, 0), (6, .istore_n 2, 0, 0, 0, 0, 0, 0), (7, .iconst 0, 0, 0, 0, 0, 0, 0), (8, .istore_n 3, 0, 0, 0, 0, 0, 0), (9, .iconst 0, 0, 0, 0, 0, 0, 0), (10, .istore 4, 0, 0, 0, 0, 0, 0), (12, .iconst (-1), 0, 0, 0, 0, -1, 0), (13, .istore 5, 0, 0, 0, 0, 0, 0), (15, .iconst 0, 0, 0, 0, 0, 0, 0), (16, .istore 6, 0, 0, 0, 0, 0, 0), (18, .iload 6, 0, 0, 0, 0, 0, 0), (20, .aload_n 0, 0, 0, 0, 0, 0, 0), (21, .getfield 31, 10, 12, 0, 762, 0, 0), (24, .iconst 3, 0, 0, 0, 0, 3, 0), (25, .iaload, 0, 0, 0, 0, 0, 0), (26, .if_icmp .gt 135, 161, 0, 0, 0, 0, 0), (29, .iconst 0, 0, 0, 0, 0, 0, 0), (30, .istore 7, 0, 0, 0, 0, 0, 0), (32, .iload 7, 0, 0, 0, 0, 0, 0), (34, .aload_n 0, 0, 0, 0, 0, 0, 0), (35, .invokevirtual 144, 132, 1, 10, 927, 0, 0), (38, .if_icmp .gt 117, 155, 0, 0, 0, 0, 0), (41, .aload_n 0, 0, 0, 0, 0, 0, 0), (42, .getfield 34, 10, 13, 0, 763, 0, 0), (45, .sipush 256, 0, 0, 0, 0, 256, 0), (48, .iload 6, 0, 0, 0, 0, 0, 0), (50, .imul, 0, 0, 0, 0, 0, 0), (51, .iload 7, 0, 0, 0, 0, 0, 0), (53, .iadd, 0, 0, 0, 0, 0, 0), (54, .iaload, 0, 0, 0, 0, 0, 0), (55, .istore 8, 0, 0, 0, 0, 0, 0), (57, .aload_n 0, 0, 0, 0, 0, 0, 0), (58, .getfield 97, 10, 10, 0, 760, 0, 0), (61, .iload 7, 0, 0, 0, 0, 0, 0), (63, .iconst (-1), 0, 0, 0, 0, -1, 0), (64, .ixor, 0, 0, 0, 0, 0, 0), (65, .iand, 0, 0, 0, 0, 0, 0), (66, .ifCond .ne 14, 80, 0, 0, 0, 0, 0), (69, .iload 8, 0, 0, 0, 0, 0, 0), (71, .ldc 153, 0, 0, 0, 953, 100000000, 0), (73, .if_icmp .ge 7, 80, 0, 0, 0, 0, 0), (76, .iconst 1, 0, 0, 0, 0, 1, 0), (77, .goto 4, 81, 0, 0, 0, 0, 0), (80, .iconst 0, 0, 0, 0, 0, 0, 0), (81, .istore 9, 0, 0, 0, 0, 0, 0), (83, .iload 9, 0, 0, 0, 0, 0, 0), (85, .ifCond .eq 19, 104, 0, 0, 0, 0, 0), (88, .iload 8, 0, 0, 0, 0, 0, 0), (90, .iload_n 2, 0, 0, 0, 0, 0, 0), (91, .if_icmp .ge 13, 104, 0, 0, 0, 0, 0), (94, .iload 8, 0, 0, 0, 0, 0, 0), (96, .istore_n 2, 0, 0, 0, 0, 0, 0), (97, .iload 6, 0, 0, 0, 0, 0, 0), (99, .istore_n 3, 0, 0, 0, 0, 0, 0), (100, .iload 7, 0, 0, 0, 0, 0, 0), (102, .istore 4, 0, 0, 0, 0, 0, 0), (104, .iload 9, 0, 0, 0, 0, 0, 0), (106, .ifCond .eq 39, 145, 0, 0, 0, 0, 0), (109, .aload_n 0, 0, 0, 0, 0, 0, 0), (110, .getfield 37, 10, 14, 0, 764, 0, 0), (113, .sipush 256, 0, 0, 0, 0, 256, 0), (116, .iload 6, 0, 0, 0, 0, 0, 0), (118, .imul, 0, 0, 0, 0, 0, 0), (119, .iload 7, 0, 0, 0, 0, 0, 0), (121, .iadd, 0, 0, 0, 0, 0, 0), (122, .iaload, 0, 0, 0, 0, 0, 0), (123, .iload 5, 0, 0, 0, 0, 0, 0), (125, .if_icmp .le 20, 145, 0, 0, 0, 0, 0), (128, .aload_n 0, 0, 0, 0, 0, 0, 0), (129, .getfield 37, 10, 14, 0, 764, 0, 0), (132, .sipush 256, 0, 0, 0, 0, 256, 0), (135, .iload 6, 0, 0, 0, 0, 0, 0), (137, .imul, 0, 0, 0, 0, 0, 0), (138, .iload 7, 0, 0, 0, 0, 0, 0), (140, .iadd, 0, 0, 0, 0, 0, 0), (141, .iaload, 0, 0, 0, 0, 0, 0), (142, .goto 5, 147, 0, 0, 0, 0, 0), (145, .iload 5, 0, 0, 0, 0, 0, 0), (147, .istore 5, 0, 0, 0, 0, 0, 0), (149, .iinc 7 1, 0, 0, 0, 0, 1, 0), (152, .goto (-120), 32, 0, 0, 0, 0, 0), (155, .iinc 6 1, 0, 0, 0, 0, 1, 0), (158, .goto (-140), 18, 0, 0, 0, 0, 0), (161, .iload_n 1, 0, 0, 0, 0, 0, 0), (162, .ifCond .ne 7, 169, 0, 0, 0, 0, 0), (165, .iload_n 2, 0, 0, 0, 0, 0, 0), (166, .goto 24, 190, 0, 0, 0, 0, 0), (169, .iload_n 1, 0, 0, 0, 0, 0, 0), (170, .iconst 1, 0, 0, 0, 0, 1, 0), (171, .if_icmp .ne 7, 178, 0, 0, 0, 0, 0), (174, .iload_n 3, 0, 0, 0, 0, 0, 0), (175, .goto 15, 190, 0, 0, 0, 0, 0), (178, .iload_n 1, 0, 0, 0, 0, 0, 0), (179, .iconst 2, 0, 0, 0, 0, 2, 0), (180, .if_icmp .ne 8, 188, 0, 0, 0, 0, 0), (183, .iload 4, 0, 0, 0, 0, 0, 0), (185, .goto 5, 190, 0, 0, 0, 0, 0), (188, .iload 5, 0, 0, 0, 0, 0, 0), (190, .ireturn, 0, 0, 0, 0, 0, 0)]
def cd_X10_bought : List pm_R := [(0, .aload_n 0, 0, 0, 0, 0, 0, 0), (1, .invokevirtual 115, 119, 1, 10, 864, 0, 0), (4, .pop, 0, 0, 0, 0, 0, 0), (5, .iload_n 1, 0, 0, 0, 0, 0, 0), (6, .i2l, 0, 0, 0, 0, 0, 0), (7, .lconst 0, 0, 0, 0, 0, 0, 0), (8, .ldc2_w 65, 0, 0, 0, 818, 0, 3), (11, .invokestatic 57, 100, 3, 0, 819, 0, 0), (14, .ifCond .eq 11, 25, 0, 0, 0, 0, 0), (17, .aload_n 0, 0, 0, 0, 0, 0, 0), (18, .iload_n 1, 0, 0, 0, 0, 0, 0), (19, .invokevirtual 157, 135, 2, 10, 945, 0, 0), (22, .goto 5, 27, 0, 0, 0, 0, 0), (25, .bipush (-2), 0, 0, 0, 0, -2, 0), (27, .ireturn, 0, 0, 0, 0, 0, 0)]
def cd_X10_addedTo : List pm_R := [(0, .iconst 0, 0, 0, 0, 0, 0, 0), (1, .istore_n 2, 0, 0, 0, 0, 0, 0), (2, .iconst 1, 0, 0, 0, 0, 1, 0), (3, .istore_n 3, 0, 0, 0, 0, 0, 0), (4, .iload_n 3, 0, 0, 0, 0, 0, 0), (5, .bipush 100, 0, 0, 0, 0, 100, 0), (7, .if_icmp .ge 32, 39, 0, 0, 0, 0, 0), (10, .aload_n 0, 0, 0, 0, 0, 0, 0), (11, .iload_n 1, 0, 0, 0, 0, 0, 0), (12, .iload_n 3, 0, 0, 0, 0, 0, 0), (13, .iadd, 0, 0, 0, 0, 0, 0), (14, .invokevirtual 137, 128, 2, 10, 919, 0, 0), (17, .aload_n 0, 0, 0, 0, 0, 0, 0), (18, .iload_n 1, 0, 0, 0, 0, 0, 0), (19, .iload_n 2, 0, 0, 0, 0, 0, 0), (20, .iadd, 0, 0, 0, 0, 0, 0), (21, .invokevirtual 137, 128, 2, 10, 919, 0, 0), (24, .if_icmp .ge 7, 31, 0, 0, 0, 0, 0), (27, .iload_n 3, 0, 0, 0, 0, 0, 0), (28, .goto 4, 32, 0, 0, 0, 0, 0), (31, .iload_n 2, 0, 0, 0, 0, 0, 0), (32, .istore_n 2, 0, 0, 0, 0, 0, 0), (33, .iinc 3 1, 0, 0, 0, 0, 1, 0), (36, .goto (-32), 4, 0, 0, 0, 0, 0), (39, .iload_n 2, 0, 0, 0, 0, 0, 0), (40, .ireturn, 0, 0, 0, 0, 0, 0)]
def cd_X10_added : List pm_R := [(0, .iload_n 1, 0, 0, 0, 0, 0, 0), (1, .invokestatic 134, 129, 1, 0, 915, 0, 0), (4, .ifCond .eq 11, 15, 0, 0, 0, 0, 0), (7, .aload_n 0, 0, 0, 0, 0, 0, 0), (8, .iload_n 1, 0, 0, 0, 0, 0, 0), (9, .invokevirtual 160, 137, 2, 10, 958, 0, 0), (12, .goto 5, 17, 0, 0, 0, 0, 0), (15, .bipush (-2), 0, 0, 0, 0, -2, 0), (17, .ireturn, 0, 0, 0, 0, 0, 0)]
def cd_X10_gainBy : List pm_R := [(0, .aload_n 0, 0, 0, 0, 0, 0, 0), (1, .iload_n 1, 0, 0, 0, 0, 0, 0), (2, .invokevirtual 150, 131, 2, 10, 934, 0, 0), (5, .aload_n 0, 0, 0, 0, 0, 0, 0), (6, .aload_n 0, 0, 0, 0, 0, 0, 0), (7, .iload_n 1, 0, 0, 0, 0, 0, 0), (8, .invokevirtual 150, 131, 2, 10, 934, 0, 0), (11, .invokevirtual 137, 128, 2, 10, 919, 0, 0), (14, .isub, 0, 0, 0, 0, 0, 0), (15, .ireturn, 0, 0, 0, 0, 0, 0)]
def cd_X10_proofOf : List pm_R := [(0, .iconst (-1), 0, 0, 0, 0, -1, 0), (1, .istore_n 3, 0, 0, 0, 0, 0, 0), (2, .iconst 1, 0, 0, 0, 0, 1, 0), (3, .istore 4, 0, 0, 0, 0, 0, 0), (5, .iload 4, 0, 0, 0, 0, 0, 0), (7, .aload_n 0, 0, 0, 0, 0, 0, 0), (8, .invokevirtual 144, 132, 1, 10, 927, 0, 0), (11, .if_icmp .gt 44, 55, 0, 0, 0, 0, 0), (14, .iload 4, 0, 0, 0, 0, 0, 0), (16, .invokestatic 163, 104, 1, 0, 971, 0, 0), (19, .iload_n 1, 0, 0, 0, 0, 0, 0), (20, .if_icmp .gt 27, 47, 0, 0, 0, 0, 0), (23, .iload_n 3, 0, 0, 0, 0, 0, 0), (24, .iconst (-1), 0, 0, 0, 0, -1, 0), (25, .if_icmp .eq 17, 42, 0, 0, 0, 0, 0), (28, .aload_n 0, 0, 0, 0, 0, 0, 0), (29, .iload 4, 0, 0, 0, 0, 0, 0), (31, .invokevirtual 166, 139, 2, 10, 974, 0, 0), (34, .aload_n 0, 0, 0, 0, 0, 0, 0), (35, .iload_n 3, 0, 0, 0, 0, 0, 0), (36, .invokevirtual 166, 139, 2, 10, 974, 0, 0), (39, .if_icmp .le 8, 47, 0, 0, 0, 0, 0), (42, .iload 4, 0, 0, 0, 0, 0, 0), (44, .goto 4, 48, 0, 0, 0, 0, 0), (47, .iload_n 3, 0, 0, 0, 0, 0, 0), (48, .istore_n 3, 0, 0, 0, 0, 0, 0), (49, .iinc 4 1, 0, 0, 0, 0, 1, 0), (52, .goto (-47), 5, 0, 0, 0, 0, 0), (55, .iload_n 3, 0, 0, 0, 0, 0, 0), (56, .iconst (-1), 0, 0, 0, 0, -1, 0), (57, .if_icmp .ne 8, 65, 0, 0, 0, 0, 0), (60, .ldc 169, 0, 0, 0, 978, -100003, 0), (62, .goto 16, 78, 0, 0, 0, 0, 0), (65, .iload_n 2, 0, 0, 0, 0, 0, 0), (66, .ifCond .ne 11, 77, 0, 0, 0, 0, 0), (69, .aload_n 0, 0, 0, 0, 0, 0, 0), (70, .iload_n 3, 0, 0, 0, 0, 0, 0), (71, .invokevirtual 166, 139, 2, 10, 974, 0, 0), (74, .goto 4, 78, 0, 0, 0, 0, 0), (77, .iload_n 3, 0, 0, 0, 0, 0, 0), (78, .ireturn, 0, 0, 0, 0, 0, 0)]
def cd_X10_proof : List pm_R := [(0, .aload_n 0, 0, 0, 0, 0, 0, 0), (1, .invokevirtual 115, 119, 1, 10, 864, 0, 0), (4, .pop, 0, 0, 0, 0, 0, 0), (5, .iload_n 1, 0, 0, 0, 0, 0, 0), (6, .i2l, 0, 0, 0, 0, 0, 0), (7, .lconst 1, 0, 0, 0, 0, 0, 1), (8, .ldc2_w 170, 0, 0, 0, 966, 0, 8), (11, .invokestatic 57, 100, 3, 0, 819, 0, 0), (14, .ifCond .eq 19, 33, 0, 0, 0, 0, 0), (17, .iload_n 2, 0, 0, 0, 0, 0, 0), (18, .invokestatic 147, 102, 1, 0, 931, 0, 0), (21, .ifCond .eq 12, 33, 0, 0, 0, 0, 0), (24, .aload_n 0, 0, 0, 0, 0, 0, 0), (25, .iload_n 1, 0, 0, 0, 0, 0, 0), (26, .iload_n 2, 0, 0, 0, 0, 0, 0), (27, .invokevirtual 172, 140, 3, 10, 967, 0, 0), (30, .goto 5, 35, 0, 0, 0, 0, 0), (33, .ldc 175, 0, 0, 0, 979, -100002, 0), (35, .ireturn, 0, 0, 0, 0, 0, 0)]
def cd_X10_isProof : List pm_R := [(0, .iconst 1, 0, 0, 0, 0, 1, 0), (1, .istore_n 2, 0, 0, 0, 0, 0, 0), (2, .iconst 1, 0, 0, 0, 0, 1, 0), (3, .istore_n 3, 0, 0, 0, 0, 0, 0), (4, .iload_n 3, 0, 0, 0, 0, 0, 0), (5, .aload_n 0, 0, 0, 0, 0, 0, 0), (6, .invokevirtual 144, 132, 1, 10, 927, 0, 0), (9, .if_icmp .gt 28, 37, 0, 0, 0, 0, 0), (12, .iload_n 2, 0, 0, 0, 0, 0, 0), (13, .ifCond .eq 16, 29, 0, 0, 0, 0, 0), (16, .aload_n 0, 0, 0, 0, 0, 0, 0), (17, .iload_n 3, 0, 0, 0, 0, 0, 0), (18, .invokevirtual 166, 139, 2, 10, 974, 0, 0), (21, .iload_n 1, 0, 0, 0, 0, 0, 0), (22, .if_icmp .gt 7, 29, 0, 0, 0, 0, 0), (25, .iconst 1, 0, 0, 0, 0, 1, 0), (26, .goto 4, 30, 0, 0, 0, 0, 0), (29, .iconst 0, 0, 0, 0, 0, 0, 0), (30, .istore_n 2, 0, 0, 0, 0, 0, 0), (31, .iinc 3 1, 0, 0, 0, 0, 1, 0), (34, .goto (-30), 4, 0, 0, 0, 0, 0), (37, .iload_n 2, 0, 0, 0, 0, 0, 0), (38, .ireturn, 0, 0, 0, 0, 0, 0)]
def cd_X10_raisedOf : List pm_R := [(0, .aload_n 0, 0, 0, 0, 0, 0, 0), (1, .getfield 25, 10, 9, 0, 759, 0, 0), (4, .iload_n 1, 0, 0, 0, 0, 0, 0), (5, .iaload, 0, 0, 0, 0, 0, 0), (6, .istore_n 3, 0, 0, 0, 0, 0, 0), (7, .iconst (-1), 0, 0, 0, 0, -1, 0), (8, .istore 4, 0, 0, 0, 0, 0, 0), (10, .iconst 0, 0, 0, 0, 0, 0, 0), (11, .istore 5, 0, 0, 0, 0, 0, 0), (13, .iload 5, 0, 0, 0, 0, 0, 0), (15, .bipush 100, 0, 0, 0, 0, 100, 0), (17, .if_icmp .ge 41, 58, 0, 0, 0, 0, 0), (20, .iload 4, 0, 0, 0, 0, 0, 0), (22, .iconst (-1), 0, 0, 0, 0, -1, 0), (23, .if_icmp .ne 35, 58, 0, 0, 0, 0, 0), (26, .aload_n 0, 0, 0, 0, 0, 0, 0), (27, .getfield 25, 10, 9, 0, 759, 0, 0), (30, .iload_n 1, 0, 0, 0, 0, 0, 0), (31, .iload_n 3, 0, 0, 0, 0, 0, 0), (32, .iload 5, 0, 0, 0, 0, 0, 0), (34, .iadd, 0, 0, 0, 0, 0, 0), (35, .iastore, 0, 0, 0, 0, 0, 0), (36, .aload_n 0, 0, 0, 0, 0, 0, 0), (37, .iload_n 2, 0, 0, 0, 0, 0, 0), (38, .invokevirtual 176, 142, 2, 10, 989, 0, 0), (41, .ifCond .eq 8, 49, 0, 0, 0, 0, 0), (44, .iload 5, 0, 0, 0, 0, 0, 0), (46, .goto 4, 50, 0, 0, 0, 0, 0), (49, .iconst (-1), 0, 0, 0, 0, -1, 0), (50, .istore 4, 0, 0, 0, 0, 0, 0), (52, .iinc 5 1, 0, 0, 0, 0, 1, 0), (55, .goto (-42), 13, 0, 0, 0, 0, 0), (58, .aload_n 0, 0, 0, 0, 0, 0, 0), (59, .getfield 25, 10, 9, 0, 759, 0, 0), (62, .iload_n 1, 0, 0, 0, 0, 0, 0), (63, .iload_n 3, 0, 0, 0, 0, 0, 0), (64, .iastore, 0, 0, 0, 0, 0, 0), (65, .iload 4, 0, 0, 0, 0, 0, 0), (67, .ireturn, 0, 0, 0, 0, 0, 0)]
def cd_X10_raised : List pm_R := [(0, .aload_n 0, 0, 0, 0, 0, 0, 0), (1, .iload_n 1, 0, 0, 0, 0, 0, 0), (2, .invokevirtual 118, 121, 2, 10, 886, 0, 0), (5, .ifCond .eq 24, 29, 0, 0, 0, 0, 0), (8, .iload_n 2, 0, 0, 0, 0, 0, 0), (9, .i2l, 0, 0, 0, 0, 0, 0), (10, .lconst 0, 0, 0, 0, 0, 0, 0), (11, .ldc2_w 179, 0, 0, 0, 984, 0, 999), (14, .invokestatic 57, 100, 3, 0, 819, 0, 0), (17, .ifCond .eq 12, 29, 0, 0, 0, 0, 0), (20, .aload_n 0, 0, 0, 0, 0, 0, 0), (21, .iload_n 1, 0, 0, 0, 0, 0, 0), (22, .iload_n 2, 0, 0, 0, 0, 0, 0), (23, .invokevirtual 181, 143, 3, 10, 985, 0, 0), (26, .goto 5, 31, 0, 0, 0, 0, 0), (29, .bipush (-2), 0, 0, 0, 0, -2, 0), (31, .ireturn, 0, 0, 0, 0, 0, 0)]
def cd_X10_roundsOf : List pm_R := [(0, .aload_n 0, 0, 0, 0, 0, 0, 0), (1, .iload_n 2, 0, 0, 0, 0, 0, 0), (2, .invokevirtual 137, 128, 2, 10, 919, 0, 0), (5, .istore 4, 0, 0, 0, 0, 0, 0), (7, .iconst 0, 0, 0, 0, 0, 0, 0), (8, .istore 5, 0, 0, 0, 0, 0, 0), (10, .iconst (-1), 0, 0, 0, 0, -1, 0), (11, .istore 6, 0, 0, 0, 0, 0, 0), (13, .aload_n 0, 0, 0, 0, 0, 0, 0), (14, .getfield 43, 10, 16, 0, 766, 0, 0), (17, .iconst 0, 0, 0, 0, 0, 0, 0), (18, .iload_n 1, 0, 0, 0, 0, 0, 0), (19, .iastore, 0, 0, 0, 0, 0, 0), (20, .iload 5, 0, 0, 0, 0, 0, 0), (22, .sipush 200, 0, 0, 0, 0, 200, 0), (25, .if_icmp .ge 90, 115, 0, 0, 0, 0, 0), (28, .iload 4, 0, 0, 0, 0, 0, 0), (30, .aload_n 0, 0, 0, 0, 0, 0, 0), (31, .getfield 43, 10, 16, 0, 766, 0, 0), (34, .iload 5, 0, 0, 0, 0, 0, 0), (36, .iaload, 0, 0, 0, 0, 0, 0), (37, .if_icmp .gt 78, 115, 0, 0, 0, 0, 0), (40, .aload_n 0, 0, 0, 0, 0, 0, 0), (41, .aload_n 0, 0, 0, 0, 0, 0, 0), (42, .getfield 43, 10, 16, 0, 766, 0, 0), (45, .iload 5, 0, 0, 0, 0, 0, 0), (47, .iaload, 0, 0, 0, 0, 0, 0), (48, .iload 4, 0, 0, 0, 0, 0, 0), (50, .isub, 0, 0, 0, 0, 0, 0), (51, .invokevirtual 137, 128, 2, 10, 919, 0, 0), (54, .istore 7, 0, 0, 0, 0, 0, 0), (56, .iconst 0, 0, 0, 0, 0, 0, 0), (57, .istore 8, 0, 0, 0, 0, 0, 0), (59, .iload 8, 0, 0, 0, 0, 0, 0), (61, .iload 5, 0, 0, 0, 0, 0, 0), (63, .if_icmp .gt 37, 100, 0, 0, 0, 0, 0), (66, .iload 6, 0, 0, 0, 0, 0, 0), (68, .iconst (-1), 0, 0, 0, 0, -1, 0), (69, .if_icmp .ne 31, 100, 0, 0, 0, 0, 0), (72, .aload_n 0, 0, 0, 0, 0, 0, 0), (73, .getfield 43, 10, 16, 0, 766, 0, 0), (76, .iload 8, 0, 0, 0, 0, 0, 0), (78, .iaload, 0, 0, 0, 0, 0, 0), (79, .iload 7, 0, 0, 0, 0, 0, 0), (81, .if_icmp .ne 10, 91, 0, 0, 0, 0, 0), (84, .iload 5, 0, 0, 0, 0, 0, 0), (86, .iconst 1, 0, 0, 0, 0, 1, 0), (87, .iadd, 0, 0, 0, 0, 0, 0), (88, .goto 4, 92, 0, 0, 0, 0, 0), (91, .iconst (-1), 0, 0, 0, 0, -1, 0), (92, .istore 6, 0, 0, 0, 0, 0, 0), (94, .iinc 8 1, 0, 0, 0, 0, 1, 0), (97, .goto (-38), 59, 0, 0, 0, 0, 0), (100, .iinc 5 1, 0, 0, 0, 0, 1, 0), (103, .aload_n 0, 0, 0, 0, 0, 0, 0), (104, .getfield 43, 10, 16, 0, 766, 0, 0), (107, .iload 5, 0, 0, 0, 0, 0, 0), (109, .iload 7, 0, 0, 0, 0, 0, 0), (111, .iastore, 0, 0, 0, 0, 0, 0), (112, .goto (-92), 20, 0, 0, 0, 0, 0), (115, .iload_n 3, 0, 0, 0, 0, 0, 0), (116, .ifCond .ne 8, 124, 0, 0, 0, 0, 0), (119, .iload 5, 0, 0, 0, 0, 0, 0), (121, .goto 20, 141, 0, 0, 0, 0, 0), (124, .iload_n 3, 0, 0, 0, 0, 0, 0), (125, .iconst 1, 0, 0, 0, 0, 1, 0), (126, .if_icmp .ne 13, 139, 0, 0, 0, 0, 0), (129, .aload_n 0, 0, 0, 0, 0, 0, 0), (130, .getfield 43, 10, 16, 0, 766, 0, 0), (133, .iload 5, 0, 0, 0, 0, 0, 0), (135, .iaload, 0, 0, 0, 0, 0, 0), (136, .goto 5, 141, 0, 0, 0, 0, 0), (139, .iload 6, 0, 0, 0, 0, 0, 0), (141, .ireturn, 0, 0, 0, 0, 0, 0)]
def cd_X10_rounds : List pm_R := [(0, .iload_n 1, 0, 0, 0, 0, 0, 0), (1, .invokestatic 134, 129, 1, 0, 915, 0, 0), (4, .ifCond .eq 32, 36, 0, 0, 0, 0, 0), (7, .iload_n 2, 0, 0, 0, 0, 0, 0), (8, .invokestatic 134, 129, 1, 0, 915, 0, 0), (11, .ifCond .eq 25, 36, 0, 0, 0, 0, 0), (14, .iload_n 3, 0, 0, 0, 0, 0, 0), (15, .i2l, 0, 0, 0, 0, 0, 0), (16, .lconst 0, 0, 0, 0, 0, 0, 0), (17, .ldc2_w 71, 0, 0, 0, 822, 0, 2), (20, .invokestatic 57, 100, 3, 0, 819, 0, 0), (23, .ifCond .eq 13, 36, 0, 0, 0, 0, 0), (26, .aload_n 0, 0, 0, 0, 0, 0, 0), (27, .iload_n 1, 0, 0, 0, 0, 0, 0), (28, .iload_n 2, 0, 0, 0, 0, 0, 0), (29, .iload_n 3, 0, 0, 0, 0, 0, 0), (30, .invokevirtual 184, 145, 4, 10, 997, 0, 0), (33, .goto 5, 38, 0, 0, 0, 0, 0), (36, .bipush (-2), 0, 0, 0, 0, -2, 0), (38, .ireturn, 0, 0, 0, 0, 0, 0)]
def cd_X10_figuresOf : List pm_R := [(0, .iconst 1, 0, 0, 0, 0, 1, 0), (1, .istore_n 3, 0, 0, 0, 0, 0, 0), (2, .iconst 1, 0, 0, 0, 0, 1, 0), (3, .istore 4, 0, 0, 0, 0, 0, 0), (5, .iload 4, 0, 0, 0, 0, 0, 0), (7, .iload_n 1, 0, 0, 0, 0, 0, 0), (8, .if_icmp .ge 18, 26, 0, 0, 0, 0, 0), (11, .iload_n 3, 0, 0, 0, 0, 0, 0), (12, .aload_n 0, 0, 0, 0, 0, 0, 0), (13, .getfield 31, 10, 12, 0, 762, 0, 0), (16, .iconst 0, 0, 0, 0, 0, 0, 0), (17, .iaload, 0, 0, 0, 0, 0, 0), (18, .imul, 0, 0, 0, 0, 0, 0), (19, .istore_n 3, 0, 0, 0, 0, 0, 0), (20, .iinc 4 1, 0, 0, 0, 0, 1, 0), (23, .goto (-18), 5, 0, 0, 0, 0, 0), (26, .iconst 0, 0, 0, 0, 0, 0, 0), (27, .istore 4, 0, 0, 0, 0, 0, 0), (29, .iconst 0, 0, 0, 0, 0, 0, 0), (30, .istore 5, 0, 0, 0, 0, 0, 0), (32, .iconst 0, 0, 0, 0, 0, 0, 0), (33, .istore 6, 0, 0, 0, 0, 0, 0), (35, .iload_n 3, 0, 0, 0, 0, 0, 0), (36, .istore 7, 0, 0, 0, 0, 0, 0), (38, .iconst (-1), 0, 0, 0, 0, -1, 0), (39, .istore 8, 0, 0, 0, 0, 0, 0), (41, .iload_n 3, 0, 0, 0, 0, 0, 0), (42, .istore 9, 0, 0, 0, 0, 0, 0), (44, .iload 9, 0, 0, 0, 0, 0, 0), (46, .iload_n 3, 0, 0, 0, 0, 0, 0), (47, .aload_n 0, 0, 0, 0, 0, 0, 0), (48, .getfield 31, 10, 12, 0, 762, 0, 0), (51, .iconst 0, 0, 0, 0, 0, 0, 0), (52, .iaload, 0, 0, 0, 0, 0, 0), (53, .imul, 0, 0, 0, 0, 0, 0), (54, .if_icmp .ge 112, 166, 0, 0, 0, 0, 0), (57, .aload_n 0, 0, 0, 0, 0, 0, 0), (58, .iload 9, 0, 0, 0, 0, 0, 0), (60, .invokevirtual 137, 128, 2, 10, 919, 0, 0), (63, .iload 9, 0, 0, 0, 0, 0, 0), (65, .isub, 0, 0, 0, 0, 0, 0), (66, .istore 10, 0, 0, 0, 0, 0, 0), (68, .iload 4, 0, 0, 0, 0, 0, 0), (70, .iload 10, 0, 0, 0, 0, 0, 0), (72, .ifCond .ne 7, 79, 0, 0, 0, 0, 0), (75, .iconst 1, 0, 0, 0, 0, 1, 0), (76, .goto 4, 80, 0, 0, 0, 0, 0), (79, .iconst 0, 0, 0, 0, 0, 0, 0), (80, .iadd, 0, 0, 0, 0, 0, 0), (81, .istore 4, 0, 0, 0, 0, 0, 0), (83, .iload 5, 0, 0, 0, 0, 0, 0), (85, .iload 10, 0, 0, 0, 0, 0, 0), (87, .ifCond .ge 7, 94, 0, 0, 0, 0, 0), (90, .iconst 1, 0, 0, 0, 0, 1, 0), (91, .goto 4, 95, 0, 0, 0, 0, 0), (94, .iconst 0, 0, 0, 0, 0, 0, 0), (95, .iadd, 0, 0, 0, 0, 0, 0), (96, .istore 5, 0, 0, 0, 0, 0, 0), (98, .iload 6, 0, 0, 0, 0, 0, 0), (100, .iload 10, 0, 0, 0, 0, 0, 0), (102, .ifCond .le 7, 109, 0, 0, 0, 0, 0), (105, .iconst 1, 0, 0, 0, 0, 1, 0), (106, .goto 4, 110, 0, 0, 0, 0, 0), (109, .iconst 0, 0, 0, 0, 0, 0, 0), (110, .iadd, 0, 0, 0, 0, 0, 0), (111, .istore 6, 0, 0, 0, 0, 0, 0), (113, .iload 10, 0, 0, 0, 0, 0, 0), (115, .ifCond .ge 9, 124, 0, 0, 0, 0, 0), (118, .iload 10, 0, 0, 0, 0, 0, 0), (120, .ineg, 0, 0, 0, 0, 0, 0), (121, .goto 5, 126, 0, 0, 0, 0, 0), (124, .iload 10, 0, 0, 0, 0, 0, 0), (126, .istore 11, 0, 0, 0, 0, 0, 0), (128, .iload 11, 0, 0, 0, 0, 0, 0), (130, .iload 8, 0, 0, 0, 0, 0, 0), (132, .if_icmp .le 8, 140, 0, 0, 0, 0, 0), (135, .iload 9, 0, 0, 0, 0, 0, 0), (137, .goto 5, 142, 0, 0, 0, 0, 0), (140, .iload 7, 0, 0, 0, 0, 0, 0), (142, .istore 7, 0, 0, 0, 0, 0, 0), (144, .iload 11, 0, 0, 0, 0, 0, 0), (146, .iload 8, 0, 0, 0, 0, 0, 0), (148, .if_icmp .le 8, 156, 0, 0, 0, 0, 0), (151, .iload 11, 0, 0, 0, 0, 0, 0), (153, .goto 5, 158, 0, 0, 0, 0, 0), (156, .iload 8, 0, 0, 0, 0, 0, 0), (158, .istore 8, 0, 0, 0, 0, 0, 0), (160, .iinc 9 1, 0, 0, 0, 0, 1, 0), (163, .goto (-119), 44, 0, 0, 0, 0, 0), (166, .iload_n 2, 0, 0, 0, 0, 0, 0), (167, .ifCond .ne 8, 175, 0, 0, 0, 0, 0), (170, .iload 4, 0, 0, 0, 0, 0, 0), (172, .goto 25, 197, 0, 0, 0, 0, 0), (175, .iload_n 2, 0, 0, 0, 0, 0, 0), (176, .iconst 1, 0, 0, 0, 0, 1, 0), (177, .if_icmp .ne 8, 185, 0, 0, 0, 0, 0), (180, .iload 5, 0, 0, 0, 0, 0, 0), (182, .goto 15, 197, 0, 0, 0, 0, 0), (185, .iload_n 2, 0, 0, 0, 0, 0, 0), (186, .iconst 2, 0, 0, 0, 0, 2, 0), (187, .if_icmp .ne 8, 195, 0, 0, 0, 0, 0), (190, .iload 6, 0, 0, 0, 0, 0, 0), (192, .goto 5, 197, 0, 0, 0, 0, 0), (195, .iload 7, 0, 0, 0, 0, 0, 0), (197, .ireturn, 0, 0, 0, 0, 0, 0)]
def cd_X10_figures : List pm_R := [(0, .iload_n 1, 0, 0, 0, 0, 0, 0), (1, .i2l, 0, 0, 0, 0, 0, 0), (2, .lconst 1, 0, 0, 0, 0, 0, 1), (3, .ldc2_w 65, 0, 0, 0, 818, 0, 3), (6, .invokestatic 57, 100, 3, 0, 819, 0, 0), (9, .ifCond .eq 24, 33, 0, 0, 0, 0, 0), (12, .iload_n 2, 0, 0, 0, 0, 0, 0), (13, .i2l, 0, 0, 0, 0, 0, 0), (14, .lconst 0, 0, 0, 0, 0, 0, 0), (15, .ldc2_w 65, 0, 0, 0, 818, 0, 3), (18, .invokestatic 57, 100, 3, 0, 819, 0, 0), (21, .ifCond .eq 12, 33, 0, 0, 0, 0, 0), (24, .aload_n 0, 0, 0, 0, 0, 0, 0), (25, .iload_n 1, 0, 0, 0, 0, 0, 0), (26, .iload_n 2, 0, 0, 0, 0, 0, 0), (27, .invokevirtual 187, 147, 3, 10, 1005, 0, 0), (30, .goto 5, 35, 0, 0, 0, 0, 0), (33, .bipush (-2), 0, 0, 0, 0, -2, 0), (35, .ireturn, 0, 0, 0, 0, 0, 0)]
def cd_X10_rentOf : List pm_R := [(0, .iconst 0, 0, 0, 0, 0, 0, 0), (1, .istore 4, 0, 0, 0, 0, 0, 0), (3, .iload 4, 0, 0, 0, 0, 0, 0), (5, .iload_n 1, 0, 0, 0, 0, 0, 0), (6, .if_icmp .gt 22, 28, 0, 0, 0, 0, 0), (9, .aload_n 0, 0, 0, 0, 0, 0, 0), (10, .getfield 46, 10, 17, 0, 767, 0, 0), (13, .iload 4, 0, 0, 0, 0, 0, 0), (15, .aload_n 0, 0, 0, 0, 0, 0, 0), (16, .iload 4, 0, 0, 0, 0, 0, 0), (18, .invokevirtual 137, 128, 2, 10, 919, 0, 0), (21, .iastore, 0, 0, 0, 0, 0, 0), (22, .iinc 4 1, 0, 0, 0, 0, 1, 0), (25, .goto (-22), 3, 0, 0, 0, 0, 0), (28, .iconst 1, 0, 0, 0, 0, 1, 0), (29, .istore 4, 0, 0, 0, 0, 0, 0), (31, .iload 4, 0, 0, 0, 0, 0, 0), (33, .iload_n 2, 0, 0, 0, 0, 0, 0), (34, .if_icmp .ge 136, 170, 0, 0, 0, 0, 0), (37, .iconst 0, 0, 0, 0, 0, 0, 0), (38, .istore 5, 0, 0, 0, 0, 0, 0), (40, .iload 5, 0, 0, 0, 0, 0, 0), (42, .iload_n 1, 0, 0, 0, 0, 0, 0), (43, .if_icmp .gt 92, 135, 0, 0, 0, 0, 0), (46, .aload_n 0, 0, 0, 0, 0, 0, 0), (47, .getfield 46, 10, 17, 0, 767, 0, 0), (50, .iload 5, 0, 0, 0, 0, 0, 0), (52, .iaload, 0, 0, 0, 0, 0, 0), (53, .istore 6, 0, 0, 0, 0, 0, 0), (55, .iconst 1, 0, 0, 0, 0, 1, 0), (56, .istore 7, 0, 0, 0, 0, 0, 0), (58, .iload 7, 0, 0, 0, 0, 0, 0), (60, .iload 5, 0, 0, 0, 0, 0, 0), (62, .if_icmp .gt 58, 120, 0, 0, 0, 0, 0), (65, .aload_n 0, 0, 0, 0, 0, 0, 0), (66, .iload 7, 0, 0, 0, 0, 0, 0), (68, .invokevirtual 137, 128, 2, 10, 919, 0, 0), (71, .aload_n 0, 0, 0, 0, 0, 0, 0), (72, .getfield 46, 10, 17, 0, 767, 0, 0), (75, .iload 5, 0, 0, 0, 0, 0, 0), (77, .iload 7, 0, 0, 0, 0, 0, 0), (79, .isub, 0, 0, 0, 0, 0, 0), (80, .iaload, 0, 0, 0, 0, 0, 0), (81, .iadd, 0, 0, 0, 0, 0, 0), (82, .istore 8, 0, 0, 0, 0, 0, 0), (84, .iload_n 3, 0, 0, 0, 0, 0, 0), (85, .ifCond .ne 13, 98, 0, 0, 0, 0, 0), (88, .iload 8, 0, 0, 0, 0, 0, 0), (90, .iload 6, 0, 0, 0, 0, 0, 0), (92, .if_icmp .ge 18, 110, 0, 0, 0, 0, 0), (95, .goto 10, 105, 0, 0, 0, 0, 0), (98, .iload 8, 0, 0, 0, 0, 0, 0), (100, .iload 6, 0, 0, 0, 0, 0, 0), (102, .if_icmp .le 8, 110, 0, 0, 0, 0, 0), (105, .iload 8, 0, 0, 0, 0, 0, 0), (107, .goto 5, 112, 0, 0, 0, 0, 0), (110, .iload 6, 0, 0, 0, 0, 0, 0), (112, .istore 6, 0, 0, 0, 0, 0, 0), (114, .iinc 7 1, 0, 0, 0, 0, 1, 0), (117, .goto (-59), 58, 0, 0, 0, 0, 0), (120, .aload_n 0, 0, 0, 0, 0, 0, 0), (121, .getfield 49, 10, 18, 0, 768, 0, 0), (124, .iload 5, 0, 0, 0, 0, 0, 0), (126, .iload 6, 0, 0, 0, 0, 0, 0), (128, .iastore, 0, 0, 0, 0, 0, 0), (129, .iinc 5 1, 0, 0, 0, 0, 1, 0), (132, .goto (-92), 40, 0, 0, 0, 0, 0), (135, .iconst 0, 0, 0, 0, 0, 0, 0), (136, .istore 5, 0, 0, 0, 0, 0, 0), (138, .iload 5, 0, 0, 0, 0, 0, 0), (140, .iload_n 1, 0, 0, 0, 0, 0, 0), (141, .if_icmp .gt 23, 164, 0, 0, 0, 0, 0), (144, .aload_n 0, 0, 0, 0, 0, 0, 0), (145, .getfield 46, 10, 17, 0, 767, 0, 0), (148, .iload 5, 0, 0, 0, 0, 0, 0), (150, .aload_n 0, 0, 0, 0, 0, 0, 0), (151, .getfield 49, 10, 18, 0, 768, 0, 0), (154, .iload 5, 0, 0, 0, 0, 0, 0), (156, .iaload, 0, 0, 0, 0, 0, 0), (157, .iastore, 0, 0, 0, 0, 0, 0), (158, .iinc 5 1, 0, 0, 0, 0, 1, 0), (161, .goto (-23), 138, 0, 0, 0, 0, 0), (164, .iinc 4 1, 0, 0, 0, 0, 1, 0), (167, .goto (-136), 31, 0, 0, 0, 0, 0), (170, .aload_n 0, 0, 0, 0, 0, 0, 0), (171, .getfield 46, 10, 17, 0, 767, 0, 0), (174, .iload_n 1, 0, 0, 0, 0, 0, 0), (175, .iaload, 0, 0, 0, 0, 0, 0), (176, .ireturn, 0, 0, 0, 0, 0, 0)]
def cd_X10_rent : List pm_R := [(0, .iload_n 1, 0, 0, 0, 0, 0, 0), (1, .i2l, 0, 0, 0, 0, 0, 0), (2, .lconst 0, 0, 0, 0, 0, 0, 0), (3, .ldc2_w 190, 0, 0, 0, 1013, 0, 120), (6, .invokestatic 57, 100, 3, 0, 819, 0, 0), (9, .ifCond .eq 32, 41, 0, 0, 0, 0, 0), (12, .iload_n 2, 0, 0, 0, 0, 0, 0), (13, .i2l, 0, 0, 0, 0, 0, 0), (14, .lconst 1, 0, 0, 0, 0, 0, 1), (15, .ldc2_w 192, 0, 0, 0, 1014, 0, 6), (18, .invokestatic 57, 100, 3, 0, 819, 0, 0), (21, .ifCond .eq 20, 41, 0, 0, 0, 0, 0), (24, .iload_n 3, 0, 0, 0, 0, 0, 0), (25, .invokestatic 147, 102, 1, 0, 931, 0, 0), (28, .ifCond .eq 13, 41, 0, 0, 0, 0, 0), (31, .aload_n 0, 0, 0, 0, 0, 0, 0), (32, .iload_n 1, 0, 0, 0, 0, 0, 0), (33, .iload_n 2, 0, 0, 0, 0, 0, 0), (34, .iload_n 3, 0, 0, 0, 0, 0, 0), (35, .invokevirtual 194, 149, 4, 10, 1015, 0, 0), (38, .goto 5, 43, 0, 0, 0, 0, 0), (41, .bipush (-2), 0, 0, 0, 0, -2, 0), (43, .ireturn, 0, 0, 0, 0, 0, 0)]
def cd_X10_worth : List pm_R := [(0, .iconst 0, 0, 0, 0, 0, 0, 0), (1, .istore_n 2, 0, 0, 0, 0, 0, 0), (2, .iconst 0, 0, 0, 0, 0, 0, 0), (3, .istore_n 3, 0, 0, 0, 0, 0, 0), (4, .iload_n 3, 0, 0, 0, 0, 0, 0), (5, .aload_n 0, 0, 0, 0, 0, 0, 0), (6, .getfield 94, 10, 8, 0, 758, 0, 0), (9, .if_icmp .ge 35, 44, 0, 0, 0, 0, 0), (12, .iload_n 2, 0, 0, 0, 0, 0, 0), (13, .iload_n 1, 0, 0, 0, 0, 0, 0), (14, .aload_n 0, 0, 0, 0, 0, 0, 0), (15, .getfield 28, 10, 11, 0, 761, 0, 0), (18, .iload_n 3, 0, 0, 0, 0, 0, 0), (19, .iaload, 0, 0, 0, 0, 0, 0), (20, .invokestatic 140, 103, 2, 0, 938, 0, 0), (23, .ifCond .eq 12, 35, 0, 0, 0, 0, 0), (26, .aload_n 0, 0, 0, 0, 0, 0, 0), (27, .getfield 25, 10, 9, 0, 759, 0, 0), (30, .iload_n 3, 0, 0, 0, 0, 0, 0), (31, .iaload, 0, 0, 0, 0, 0, 0), (32, .goto 4, 36, 0, 0, 0, 0, 0), (35, .iconst 0, 0, 0, 0, 0, 0, 0), (36, .iadd, 0, 0, 0, 0, 0, 0), (37, .istore_n 2, 0, 0, 0, 0, 0, 0), (38, .iinc 3 1, 0, 0, 0, 0, 1, 0), (41, .goto (-37), 4, 0, 0, 0, 0, 0), (44, .aload_n 0, 0, 0, 0, 0, 0, 0), (45, .iload_n 2, 0, 0, 0, 0, 0, 0), (46, .invokevirtual 137, 128, 2, 10, 919, 0, 0), (49, .ireturn, 0, 0, 0, 0, 0, 0)]
def cd_X10_part : List pm_R := [(0, .lload_n 0, 0, 0, 0, 0, 0, 0), (1, .lconst 0, 0, 0, 0, 0, 0, 0), (2, .lcmp, 0, 0, 0, 0, 0, 0), (3, .ifCond .ge 8, 11, 0, 0, 0, 0, 0), (6, .lload_n 0, 0, 0, 0, 0, 0, 0), (7, .lneg, 0, 0, 0, 0, 0, 0), (8, .goto 4, 12, 0, 0, 0, 0, 0), (11, .lload_n 0, 0, 0, 0, 0, 0, 0), (12, .lstore 5, 0, 0, 0, 0, 0, 0), (14, .lload_n 2, 0, 0, 0, 0, 0, 0), (15, .lstore 7, 0, 0, 0, 0, 0, 0), (17, .lload 7, 0, 0, 0, 0, 0, 0), (19, .lconst 0, 0, 0, 0, 0, 0, 0), (20, .lcmp, 0, 0, 0, 0, 0, 0), (21, .ifCond .eq 21, 42, 0, 0, 0, 0, 0), (24, .lload 5, 0, 0, 0, 0, 0, 0), (26, .lload 7, 0, 0, 0, 0, 0, 0), (28, .lrem, 0, 0, 0, 0, 0, 0), (29, .lstore 9, 0, 0, 0, 0, 0, 0), (31, .lload 7, 0, 0, 0, 0, 0, 0), (33, .lstore 5, 0, 0, 0, 0, 0, 0), (35, .lload 9, 0, 0, 0, 0, 0, 0), (37, .lstore 7, 0, 0, 0, 0, 0, 0), (39, .goto (-22), 17, 0, 0, 0, 0, 0), (42, .iload 4, 0, 0, 0, 0, 0, 0), (44, .ifCond .ne 7, 51, 0, 0, 0, 0, 0), (47, .lload_n 0, 0, 0, 0, 0, 0, 0), (48, .goto 4, 52, 0, 0, 0, 0, 0), (51, .lload_n 2, 0, 0, 0, 0, 0, 0), (52, .lload 5, 0, 0, 0, 0, 0, 0), (54, .ldiv, 0, 0, 0, 0, 0, 0), (55, .lreturn, 0, 0, 0, 0, 0, 0)]
def cd_X10_shareOf : List pm_R := [(0, .lconst 0, 0, 0, 0, 0, 0, 0), (1, .lstore_n 3, 0, 0, 0, 0, 0, 0), (2, .iconst 0, 0, 0, 0, 0, 0, 0), (3, .istore 5, 0, 0, 0, 0, 0, 0), (5, .iload 5, 0, 0, 0, 0, 0, 0), (7, .bipush 16, 0, 0, 0, 0, 16, 0), (9, .if_icmp .ge 69, 78, 0, 0, 0, 0, 0), (12, .iload 5, 0, 0, 0, 0, 0, 0), (14, .iload_n 1, 0, 0, 0, 0, 0, 0), (15, .invokestatic 140, 103, 2, 0, 938, 0, 0), (18, .ifCond .ne 54, 72, 0, 0, 0, 0, 0), (21, .iload 5, 0, 0, 0, 0, 0, 0), (23, .invokestatic 163, 104, 1, 0, 971, 0, 0), (26, .istore 6, 0, 0, 0, 0, 0, 0), (28, .iload 6, 0, 0, 0, 0, 0, 0), (30, .ifCond .eq 9, 39, 0, 0, 0, 0, 0), (33, .iload 6, 0, 0, 0, 0, 0, 0), (35, .iconst 3, 0, 0, 0, 0, 3, 0), (36, .if_icmp .ne 8, 44, 0, 0, 0, 0, 0), (39, .bipush 6, 0, 0, 0, 0, 6, 0), (41, .goto 4, 45, 0, 0, 0, 0, 0), (44, .iconst 2, 0, 0, 0, 0, 2, 0), (45, .istore 7, 0, 0, 0, 0, 0, 0), (47, .lload_n 3, 0, 0, 0, 0, 0, 0), (48, .iload 7, 0, 0, 0, 0, 0, 0), (50, .i2l, 0, 0, 0, 0, 0, 0), (51, .aload_n 0, 0, 0, 0, 0, 0, 0), (52, .iload 5, 0, 0, 0, 0, 0, 0), (54, .iconst 1, 0, 0, 0, 0, 1, 0), (55, .iload_n 1, 0, 0, 0, 0, 0, 0), (56, .ishl, 0, 0, 0, 0, 0, 0), (57, .ior, 0, 0, 0, 0, 0, 0), (58, .invokevirtual 197, 151, 2, 10, 1027, 0, 0), (61, .aload_n 0, 0, 0, 0, 0, 0, 0), (62, .iload 5, 0, 0, 0, 0, 0, 0), (64, .invokevirtual 197, 151, 2, 10, 1027, 0, 0), (67, .isub, 0, 0, 0, 0, 0, 0), (68, .i2l, 0, 0, 0, 0, 0, 0), (69, .lmul, 0, 0, 0, 0, 0, 0), (70, .ladd, 0, 0, 0, 0, 0, 0), (71, .lstore_n 3, 0, 0, 0, 0, 0, 0), (72, .iinc 5 1, 0, 0, 0, 0, 1, 0), (75, .goto (-70), 5, 0, 0, 0, 0, 0), (78, .lload_n 3, 0, 0, 0, 0, 0, 0), (79, .ldc2_w 200, 0, 0, 0, 1031, 0, 24), (82, .iload_n 2, 0, 0, 0, 0, 0, 0), (83, .invokestatic 202, 152, 3, 0, 1032, 0, 0), (86, .lreturn, 0, 0, 0, 0, 0, 0)]
def cd_X10_share : List pm_R := [(0, .aload_n 0, 0, 0, 0, 0, 0, 0), (1, .invokevirtual 115, 119, 1, 10, 864, 0, 0), (4, .pop, 0, 0, 0, 0, 0, 0), (5, .iload_n 1, 0, 0, 0, 0, 0, 0), (6, .invokestatic 126, 125, 1, 0, 903, 0, 0), (9, .ifCond .eq 19, 28, 0, 0, 0, 0, 0), (12, .iload_n 2, 0, 0, 0, 0, 0, 0), (13, .invokestatic 147, 102, 1, 0, 931, 0, 0), (16, .ifCond .eq 12, 28, 0, 0, 0, 0, 0), (19, .aload_n 0, 0, 0, 0, 0, 0, 0), (20, .iload_n 1, 0, 0, 0, 0, 0, 0), (21, .iload_n 2, 0, 0, 0, 0, 0, 0), (22, .invokevirtual 206, 153, 3, 10, 1023, 0, 0), (25, .goto 8, 33, 0, 0, 0, 0, 0), (28, .bipush (-2), 0, 0, 0, 0, -2, 0), (30, .invokestatic 210, 101, 1, 0, 1035, 0, 0), (33, .lreturn, 0, 0, 0, 0, 0, 0)]
def cd_X10_fits : List pm_R := [(0, .iload_n 1, 0, 0, 0, 0, 0, 0), (1, .istore_n 3, 0, 0, 0, 0, 0, 0), (2, .aload_n 0, 0, 0, 0, 0, 0, 0), (3, .getfield 13, 10, 1, 0, 751, 0, 0), (6, .iload_n 2, 0, 0, 0, 0, 0, 0), (7, .iaload, 0, 0, 0, 0, 0, 0), (8, .iconst 1, 0, 0, 0, 0, 1, 0), (9, .isub, 0, 0, 0, 0, 0, 0), (10, .istore 4, 0, 0, 0, 0, 0, 0), (12, .iload 4, 0, 0, 0, 0, 0, 0), (14, .ifCond .lt 57, 71, 0, 0, 0, 0, 0), (17, .aload_n 0, 0, 0, 0, 0, 0, 0), (18, .getfield 16, 10, 2, 0, 752, 0, 0), (21, .bipush 60, 0, 0, 0, 0, 60, 0), (23, .iload_n 2, 0, 0, 0, 0, 0, 0), (24, .imul, 0, 0, 0, 0, 0, 0), (25, .iload 4, 0, 0, 0, 0, 0, 0), (27, .iadd, 0, 0, 0, 0, 0, 0), (28, .iaload, 0, 0, 0, 0, 0, 0), (29, .istore 5, 0, 0, 0, 0, 0, 0), (31, .iload_n 3, 0, 0, 0, 0, 0, 0), (32, .ifCond .eq 22, 54, 0, 0, 0, 0, 0), (35, .iload 5, 0, 0, 0, 0, 0, 0), (37, .iconst (-1), 0, 0, 0, 0, -1, 0), (38, .if_icmp .eq 18, 56, 0, 0, 0, 0, 0), (41, .iload 5, 0, 0, 0, 0, 0, 0), (43, .iload_n 3, 0, 0, 0, 0, 0, 0), (44, .aload_n 0, 0, 0, 0, 0, 0, 0), (45, .getfield 31, 10, 12, 0, 762, 0, 0), (48, .iconst 0, 0, 0, 0, 0, 0, 0), (49, .iaload, 0, 0, 0, 0, 0, 0), (50, .irem, 0, 0, 0, 0, 0, 0), (51, .if_icmp .eq 5, 56, 0, 0, 0, 0, 0), (54, .iconst 0, 0, 0, 0, 0, 0, 0), (55, .ireturn, 0, 0, 0, 0, 0, 0), (56, .iload_n 3, 0, 0, 0, 0, 0, 0), (57, .aload_n 0, 0, 0, 0, 0, 0, 0), (58, .getfield 31, 10, 12, 0, 762, 0, 0), (61, .iconst 0, 0, 0, 0, 0, 0, 0), (62, .iaload, 0, 0, 0, 0, 0, 0), (63, .idiv, 0, 0, 0, 0, 0, 0), (64, .istore_n 3, 0, 0, 0, 0, 0, 0), (65, .iinc 4 (-1), 0, 0, 0, 0, -1, 0), (68, .goto (-56), 12, 0, 0, 0, 0, 0), (71, .iload_n 3, 0, 0, 0, 0, 0, 0), (72, .ifCond .ne 7, 79, 0, 0, 0, 0, 0), (75, .iconst 1, 0, 0, 0, 0, 1, 0), (76, .goto 4, 80, 0, 0, 0, 0, 0), (79, .iconst 0, 0, 0, 0, 0, 0, 0), (80, .ireturn, 0, 0, 0, 0, 0, 0)]
def cd_X10_smudged : List pm_R := [(0, .iload_n 1, 0, 0, 0, 0, 0, 0), (1, .invokestatic 67, 106, 1, 0, 815, 0, 0), (4, .ifCond .eq 10, 14, 0, 0, 0, 0, 0), (7, .iload_n 2, 0, 0, 0, 0, 0, 0), (8, .invokestatic 147, 102, 1, 0, 931, 0, 0), (11, .ifCond .ne 6, 17, 0, 0, 0, 0, 0), (14, .bipush (-2), 0, 0, 0, 0, -2, 0), (16, .ireturn, 0, 0, 0, 0, 0, 0), (17, .aload_n 0, 0, 0, 0, 0, 0, 0), (18, .getfield 7, 10, 0, 0, 750, 0, 0), (21, .iload_n 1, 0, 0, 0, 0, 0, 0), (22, .iaload, 0, 0, 0, 0, 0, 0), (23, .ifCond .ge 9, 32, 0, 0, 0, 0, 0), (26, .aload_n 0, 0, 0, 0, 0, 0, 0), (27, .iconst 1, 0, 0, 0, 0, 1, 0), (28, .invokevirtual 73, 105, 2, 10, 823, 0, 0), (31, .ireturn, 0, 0, 0, 0, 0, 0), (32, .aload_n 0, 0, 0, 0, 0, 0, 0), (33, .invokevirtual 115, 119, 1, 10, 864, 0, 0), (36, .pop, 0, 0, 0, 0, 0, 0), (37, .iconst 0, 0, 0, 0, 0, 0, 0), (38, .istore_n 3, 0, 0, 0, 0, 0, 0), (39, .iconst (-1), 0, 0, 0, 0, -1, 0), (40, .istore 4, 0, 0, 0, 0, 0, 0), (42, .iconst 1, 0, 0, 0, 0, 1, 0), (43, .istore 5, 0, 0, 0, 0, 0, 0), (45, .iload 5, 0, 0, 0, 0, 0, 0), (47, .aload_n 0, 0, 0, 0, 0, 0, 0), (48, .invokevirtual 144, 132, 1, 10, 927, 0, 0), (51, .if_icmp .gt 59, 110, 0, 0, 0, 0, 0), (54, .aload_n 0, 0, 0, 0, 0, 0, 0), (55, .aload_n 0, 0, 0, 0, 0, 0, 0), (56, .aload_n 0, 0, 0, 0, 0, 0, 0), (57, .iload 5, 0, 0, 0, 0, 0, 0), (59, .invokevirtual 150, 131, 2, 10, 934, 0, 0), (62, .invokevirtual 137, 128, 2, 10, 919, 0, 0), (65, .iload_n 1, 0, 0, 0, 0, 0, 0), (66, .invokevirtual 214, 155, 3, 10, 1043, 0, 0), (69, .istore 6, 0, 0, 0, 0, 0, 0), (71, .iload 6, 0, 0, 0, 0, 0, 0), (73, .ifCond .eq 14, 87, 0, 0, 0, 0, 0), (76, .iload 4, 0, 0, 0, 0, 0, 0), (78, .iconst (-1), 0, 0, 0, 0, -1, 0), (79, .if_icmp .ne 8, 87, 0, 0, 0, 0, 0), (82, .iload 5, 0, 0, 0, 0, 0, 0), (84, .goto 5, 89, 0, 0, 0, 0, 0), (87, .iload 4, 0, 0, 0, 0, 0, 0), (89, .istore 4, 0, 0, 0, 0, 0, 0), (91, .iload_n 3, 0, 0, 0, 0, 0, 0), (92, .iload 6, 0, 0, 0, 0, 0, 0), (94, .ifCond .eq 7, 101, 0, 0, 0, 0, 0), (97, .iconst 1, 0, 0, 0, 0, 1, 0), (98, .goto 4, 102, 0, 0, 0, 0, 0), (101, .iconst 0, 0, 0, 0, 0, 0, 0), (102, .iadd, 0, 0, 0, 0, 0, 0), (103, .istore_n 3, 0, 0, 0, 0, 0, 0), (104, .iinc 5 1, 0, 0, 0, 0, 1, 0), (107, .goto (-62), 45, 0, 0, 0, 0, 0), (110, .iload_n 2, 0, 0, 0, 0, 0, 0), (111, .ifCond .ne 7, 118, 0, 0, 0, 0, 0), (114, .iload_n 3, 0, 0, 0, 0, 0, 0), (115, .goto 5, 120, 0, 0, 0, 0, 0), (118, .iload 4, 0, 0, 0, 0, 0, 0), (120, .ireturn, 0, 0, 0, 0, 0, 0)]
def cd_X10_value : List pm_R := [(0, .iload_n 1, 0, 0, 0, 0, 0, 0), (1, .iload_n 3, 0, 0, 0, 0, 0, 0), (2, .if_icmp .lt 11, 13, 0, 0, 0, 0, 0), (5, .aload_n 0, 0, 0, 0, 0, 0, 0), (6, .iload_n 1, 0, 0, 0, 0, 0, 0), (7, .invokevirtual 137, 128, 2, 10, 919, 0, 0), (10, .goto 13, 23, 0, 0, 0, 0, 0), (13, .aload_n 0, 0, 0, 0, 0, 0, 0), (14, .getfield 52, 10, 19, 0, 769, 0, 0), (17, .iconst 2, 0, 0, 0, 0, 2, 0), (18, .iload_n 1, 0, 0, 0, 0, 0, 0), (19, .imul, 0, 0, 0, 0, 0, 0), (20, .iload_n 2, 0, 0, 0, 0, 0, 0), (21, .iadd, 0, 0, 0, 0, 0, 0), (22, .iaload, 0, 0, 0, 0, 0, 0), (23, .ireturn, 0, 0, 0, 0, 0, 0)]
def cd_X10_gameOf : List pm_R := [(0, .iload_n 1, 0, 0, 0, 0, 0, 0), (1, .iload_n 3, 0, 0, 0, 0, 0, 0), (2, .if_icmp .lt 18, 20, 0, 0, 0, 0, 0), (5, .iload 4, 0, 0, 0, 0, 0, 0), (7, .ifCond .ne 11, 18, 0, 0, 0, 0, 0), (10, .aload_n 0, 0, 0, 0, 0, 0, 0), (11, .iload_n 1, 0, 0, 0, 0, 0, 0), (12, .invokevirtual 137, 128, 2, 10, 919, 0, 0), (15, .goto 4, 19, 0, 0, 0, 0, 0), (18, .iconst 0, 0, 0, 0, 0, 0, 0), (19, .ireturn, 0, 0, 0, 0, 0, 0), (20, .iconst 0, 0, 0, 0, 0, 0, 0), (21, .istore 5, 0, 0, 0, 0, 0, 0), (23, .iload_n 3, 0, 0, 0, 0, 0, 0), (24, .iconst 1, 0, 0, 0, 0, 1, 0), (25, .isub, 0, 0, 0, 0, 0, 0), (26, .istore 6, 0, 0, 0, 0, 0, 0), (28, .iload 6, 0, 0, 0, 0, 0, 0), (30, .iload_n 1, 0, 0, 0, 0, 0, 0), (31, .if_icmp .lt 162, 193, 0, 0, 0, 0, 0), (34, .iconst 0, 0, 0, 0, 0, 0, 0), (35, .istore 7, 0, 0, 0, 0, 0, 0), (37, .iload 7, 0, 0, 0, 0, 0, 0), (39, .iconst 2, 0, 0, 0, 0, 2, 0), (40, .if_icmp .ge 147, 187, 0, 0, 0, 0, 0), (43, .iconst (-1), 0, 0, 0, 0, -1, 0), (44, .istore 8, 0, 0, 0, 0, 0, 0), (46, .iconst 0, 0, 0, 0, 0, 0, 0), (47, .istore 9, 0, 0, 0, 0, 0, 0), (49, .iconst 1, 0, 0, 0, 0, 1, 0), (50, .istore 10, 0, 0, 0, 0, 0, 0), (52, .iload 10, 0, 0, 0, 0, 0, 0), (54, .bipush 10, 0, 0, 0, 0, 10, 0), (56, .if_icmp .ge 97, 153, 0, 0, 0, 0, 0), (59, .iload_n 2, 0, 0, 0, 0, 0, 0), (60, .iload 10, 0, 0, 0, 0, 0, 0), (62, .invokestatic 140, 103, 2, 0, 938, 0, 0), (65, .ifCond .eq 82, 147, 0, 0, 0, 0, 0), (68, .aload_n 0, 0, 0, 0, 0, 0, 0), (69, .iload 6, 0, 0, 0, 0, 0, 0), (71, .iload 10, 0, 0, 0, 0, 0, 0), (73, .iadd, 0, 0, 0, 0, 0, 0), (74, .iconst 1, 0, 0, 0, 0, 1, 0), (75, .iload 7, 0, 0, 0, 0, 0, 0), (77, .isub, 0, 0, 0, 0, 0, 0), (78, .iload_n 3, 0, 0, 0, 0, 0, 0), (79, .invokevirtual 217, 157, 4, 10, 1057, 0, 0), (82, .istore 11, 0, 0, 0, 0, 0, 0), (84, .iload 8, 0, 0, 0, 0, 0, 0), (86, .iconst (-1), 0, 0, 0, 0, -1, 0), (87, .if_icmp .eq 25, 112, 0, 0, 0, 0, 0), (90, .iload 7, 0, 0, 0, 0, 0, 0), (92, .ifCond .ne 13, 105, 0, 0, 0, 0, 0), (95, .iload 11, 0, 0, 0, 0, 0, 0), (97, .iload 8, 0, 0, 0, 0, 0, 0), (99, .if_icmp .ge 17, 116, 0, 0, 0, 0, 0), (102, .goto 10, 112, 0, 0, 0, 0, 0), (105, .iload 11, 0, 0, 0, 0, 0, 0), (107, .iload 8, 0, 0, 0, 0, 0, 0), (109, .if_icmp .le 7, 116, 0, 0, 0, 0, 0), (112, .iconst 1, 0, 0, 0, 0, 1, 0), (113, .goto 4, 117, 0, 0, 0, 0, 0), (116, .iconst 0, 0, 0, 0, 0, 0, 0), (117, .istore 12, 0, 0, 0, 0, 0, 0), (119, .iload 12, 0, 0, 0, 0, 0, 0), (121, .ifCond .eq 8, 129, 0, 0, 0, 0, 0), (124, .iload 10, 0, 0, 0, 0, 0, 0), (126, .goto 5, 131, 0, 0, 0, 0, 0), (129, .iload 9, 0, 0, 0, 0, 0, 0), (131, .istore 9, 0, 0, 0, 0, 0, 0), (133, .iload 12, 0, 0, 0, 0, 0, 0), (135, .ifCond .eq 8, 143, 0, 0, 0, 0, 0), (138, .iload 11, 0, 0, 0, 0, 0, 0), (140, .goto 5, 145, 0, 0, 0, 0, 0), (143, .iload 8, 0, 0, 0, 0, 0, 0), (145, .istore 8, 0, 0, 0, 0, 0, 0), (147, .iinc 10 1, 0, 0, 0, 0, 1, 0), (150, .goto (-98), 52, 0, 0, 0, 0, 0), (153, .aload_n 0, 0, 0, 0, 0, 0, 0), (154, .getfield 52, 10, 19, 0, 769, 0, 0), (157, .iconst 2, 0, 0, 0, 0, 2, 0), (158, .iload 6, 0, 0, 0, 0, 0, 0), (160, .imul, 0, 0, 0, 0, 0, 0), (161, .iload 7, 0, 0, 0, 0, 0, 0), (163, .iadd, 0, 0, 0, 0, 0, 0), (164, .iload 8, 0, 0, 0, 0, 0, 0), (166, .iastore, 0, 0, 0, 0, 0, 0), (167, .iload 7, 0, 0, 0, 0, 0, 0), (169, .ifCond .ne 8, 177, 0, 0, 0, 0, 0), (172, .iload 9, 0, 0, 0, 0, 0, 0), (174, .goto 5, 179, 0, 0, 0, 0, 0), (177, .iload 5, 0, 0, 0, 0, 0, 0), (179, .istore 5, 0, 0, 0, 0, 0, 0), (181, .iinc 7 1, 0, 0, 0, 0, 1, 0), (184, .goto (-147), 37, 0, 0, 0, 0, 0), (187, .iinc 6 (-1), 0, 0, 0, 0, -1, 0), (190, .goto (-162), 28, 0, 0, 0, 0, 0), (193, .iload 4, 0, 0, 0, 0, 0, 0), (195, .ifCond .ne 14, 209, 0, 0, 0, 0, 0), (198, .aload_n 0, 0, 0, 0, 0, 0, 0), (199, .getfield 52, 10, 19, 0, 769, 0, 0), (202, .iconst 2, 0, 0, 0, 0, 2, 0), (203, .iload_n 1, 0, 0, 0, 0, 0, 0), (204, .imul, 0, 0, 0, 0, 0, 0), (205, .iaload, 0, 0, 0, 0, 0, 0), (206, .goto 5, 211, 0, 0, 0, 0, 0), (209, .iload 5, 0, 0, 0, 0, 0, 0), (211, .ireturn, 0, 0, 0, 0, 0, 0)]
def cd_X10_game : List pm_R := [(0, .iload_n 1, 0, 0, 0, 0, 0, 0), (1, .i2l, 0, 0, 0, 0, 0, 0), (2, .lconst 0, 0, 0, 0, 0, 0, 0), (3, .ldc2_w 220, 0, 0, 0, 1051, 0, 200), (6, .invokestatic 57, 100, 3, 0, 819, 0, 0), (9, .ifCond .eq 47, 56, 0, 0, 0, 0, 0), (12, .iload_n 2, 0, 0, 0, 0, 0, 0), (13, .i2l, 0, 0, 0, 0, 0, 0), (14, .ldc2_w 71, 0, 0, 0, 822, 0, 2), (17, .ldc2_w 222, 0, 0, 0, 1052, 0, 1022), (20, .invokestatic 57, 100, 3, 0, 819, 0, 0), (23, .ifCond .eq 33, 56, 0, 0, 0, 0, 0), (26, .iload_n 2, 0, 0, 0, 0, 0, 0), (27, .iconst 2, 0, 0, 0, 0, 2, 0), (28, .irem, 0, 0, 0, 0, 0, 0), (29, .ifCond .ne 27, 56, 0, 0, 0, 0, 0), (32, .iload_n 3, 0, 0, 0, 0, 0, 0), (33, .i2l, 0, 0, 0, 0, 0, 0), (34, .lconst 1, 0, 0, 0, 0, 0, 1), (35, .ldc2_w 220, 0, 0, 0, 1051, 0, 200), (38, .invokestatic 57, 100, 3, 0, 819, 0, 0), (41, .ifCond .eq 15, 56, 0, 0, 0, 0, 0), (44, .iload 4, 0, 0, 0, 0, 0, 0), (46, .invokestatic 147, 102, 1, 0, 931, 0, 0), (49, .ifCond .eq 7, 56, 0, 0, 0, 0, 0), (52, .iconst 1, 0, 0, 0, 0, 1, 0), (53, .goto 4, 57, 0, 0, 0, 0, 0), (56, .iconst 0, 0, 0, 0, 0, 0, 0), (57, .istore 5, 0, 0, 0, 0, 0, 0), (59, .iload 5, 0, 0, 0, 0, 0, 0), (61, .ifCond .eq 15, 76, 0, 0, 0, 0, 0), (64, .aload_n 0, 0, 0, 0, 0, 0, 0), (65, .iload_n 1, 0, 0, 0, 0, 0, 0), (66, .iload_n 2, 0, 0, 0, 0, 0, 0), (67, .iload_n 3, 0, 0, 0, 0, 0, 0), (68, .iload 4, 0, 0, 0, 0, 0, 0), (70, .invokevirtual 224, 158, 5, 10, 1053, 0, 0), (73, .goto 5, 78, 0, 0, 0, 0, 0), (76, .bipush (-2), 0, 0, 0, 0, -2, 0), (78, .ireturn, 0, 0, 0, 0, 0, 0)]
def cd_X10_write : List pm_R := [(0, .iload_n 1, 0, 0, 0, 0, 0, 0), (1, .invokestatic 134, 129, 1, 0, 915, 0, 0), (4, .ifCond .eq 10, 14, 0, 0, 0, 0, 0), (7, .iload_n 2, 0, 0, 0, 0, 0, 0), (8, .invokestatic 67, 106, 1, 0, 815, 0, 0), (11, .ifCond .ne 6, 17, 0, 0, 0, 0, 0), (14, .bipush (-2), 0, 0, 0, 0, -2, 0), (16, .ireturn, 0, 0, 0, 0, 0, 0), (17, .aload_n 0, 0, 0, 0, 0, 0, 0), (18, .getfield 7, 10, 0, 0, 750, 0, 0), (21, .iload_n 2, 0, 0, 0, 0, 0, 0), (22, .iaload, 0, 0, 0, 0, 0, 0), (23, .ifCond .ge 9, 32, 0, 0, 0, 0, 0), (26, .aload_n 0, 0, 0, 0, 0, 0, 0), (27, .iconst 1, 0, 0, 0, 0, 1, 0), (28, .invokevirtual 73, 105, 2, 10, 823, 0, 0), (31, .ireturn, 0, 0, 0, 0, 0, 0), (32, .iconst 1, 0, 0, 0, 0, 1, 0), (33, .istore_n 3, 0, 0, 0, 0, 0, 0), (34, .iconst 0, 0, 0, 0, 0, 0, 0), (35, .istore 4, 0, 0, 0, 0, 0, 0), (37, .iload_n 1, 0, 0, 0, 0, 0, 0), (38, .istore 5, 0, 0, 0, 0, 0, 0), (40, .iload 5, 0, 0, 0, 0, 0, 0), (42, .ifCond .le 38, 80, 0, 0, 0, 0, 0), (45, .iload_n 3, 0, 0, 0, 0, 0, 0), (46, .iload 4, 0, 0, 0, 0, 0, 0), (48, .ifCond .ne 7, 55, 0, 0, 0, 0, 0), (51, .iconst 1, 0, 0, 0, 0, 1, 0), (52, .goto 9, 61, 0, 0, 0, 0, 0), (55, .aload_n 0, 0, 0, 0, 0, 0, 0), (56, .getfield 31, 10, 12, 0, 762, 0, 0), (59, .iconst 0, 0, 0, 0, 0, 0, 0), (60, .iaload, 0, 0, 0, 0, 0, 0), (61, .imul, 0, 0, 0, 0, 0, 0), (62, .istore_n 3, 0, 0, 0, 0, 0, 0), (63, .iinc 4 1, 0, 0, 0, 0, 1, 0), (66, .iload 5, 0, 0, 0, 0, 0, 0), (68, .aload_n 0, 0, 0, 0, 0, 0, 0), (69, .getfield 31, 10, 12, 0, 762, 0, 0), (72, .iconst 0, 0, 0, 0, 0, 0, 0), (73, .iaload, 0, 0, 0, 0, 0, 0), (74, .idiv, 0, 0, 0, 0, 0, 0), (75, .istore 5, 0, 0, 0, 0, 0, 0), (77, .goto (-37), 40, 0, 0, 0, 0, 0), (80, .iconst 0, 0, 0, 0, 0, 0, 0), (81, .istore 5, 0, 0, 0, 0, 0, 0), (83, .iload_n 1, 0, 0, 0, 0, 0, 0), (84, .istore 6, 0, 0, 0, 0, 0, 0), (86, .iload 5, 0, 0, 0, 0, 0, 0), (88, .iload 4, 0, 0, 0, 0, 0, 0), (90, .if_icmp .ge 60, 150, 0, 0, 0, 0, 0), (93, .iload 5, 0, 0, 0, 0, 0, 0), (95, .aload_n 0, 0, 0, 0, 0, 0, 0), (96, .getfield 13, 10, 1, 0, 751, 0, 0), (99, .iload_n 2, 0, 0, 0, 0, 0, 0), (100, .iaload, 0, 0, 0, 0, 0, 0), (101, .if_icmp .ge 49, 150, 0, 0, 0, 0, 0), (104, .aload_n 0, 0, 0, 0, 0, 0, 0), (105, .getfield 16, 10, 2, 0, 752, 0, 0), (108, .bipush 60, 0, 0, 0, 0, 60, 0), (110, .iload_n 2, 0, 0, 0, 0, 0, 0), (111, .imul, 0, 0, 0, 0, 0, 0), (112, .iload 5, 0, 0, 0, 0, 0, 0), (114, .iadd, 0, 0, 0, 0, 0, 0), (115, .aload_n 0, 0, 0, 0, 0, 0, 0), (116, .getfield 7, 10, 0, 0, 750, 0, 0), (119, .iload_n 2, 0, 0, 0, 0, 0, 0), (120, .iaload, 0, 0, 0, 0, 0, 0), (121, .iload 6, 0, 0, 0, 0, 0, 0), (123, .iload_n 3, 0, 0, 0, 0, 0, 0), (124, .idiv, 0, 0, 0, 0, 0, 0), (125, .invokestatic 81, 110, 2, 0, 839, 0, 0), (128, .iastore, 0, 0, 0, 0, 0, 0), (129, .iload 6, 0, 0, 0, 0, 0, 0), (131, .iload_n 3, 0, 0, 0, 0, 0, 0), (132, .irem, 0, 0, 0, 0, 0, 0), (133, .istore 6, 0, 0, 0, 0, 0, 0), (135, .iload_n 3, 0, 0, 0, 0, 0, 0), (136, .aload_n 0, 0, 0, 0, 0, 0, 0), (137, .getfield 31, 10, 12, 0, 762, 0, 0), (140, .iconst 0, 0, 0, 0, 0, 0, 0), (141, .iaload, 0, 0, 0, 0, 0, 0), (142, .idiv, 0, 0, 0, 0, 0, 0), (143, .istore_n 3, 0, 0, 0, 0, 0, 0), (144, .iinc 5 1, 0, 0, 0, 0, 1, 0), (147, .goto (-61), 86, 0, 0, 0, 0, 0), (150, .iload 5, 0, 0, 0, 0, 0, 0), (152, .ireturn, 0, 0, 0, 0, 0, 0)]
def cd_X10_count : List pm_R := [(0, .aload_n 0, 0, 0, 0, 0, 0, 0), (1, .invokevirtual 115, 119, 1, 10, 864, 0, 0), (4, .pop, 0, 0, 0, 0, 0, 0), (5, .iload_n 1, 0, 0, 0, 0, 0, 0), (6, .tableswitch 91 0 8 #[50, 55, 60, 68, 77, 77, 77, 77, 86], 50, 0, 0, 0, 0, 0), (56, .aload_n 0, 0, 0, 0, 0, 0, 0), (57, .getfield 94, 10, 8, 0, 758, 0, 0), (60, .ireturn, 0, 0, 0, 0, 0, 0), (61, .aload_n 0, 0, 0, 0, 0, 0, 0), (62, .getfield 88, 10, 6, 0, 756, 0, 0), (65, .ireturn, 0, 0, 0, 0, 0, 0), (66, .aload_n 0, 0, 0, 0, 0, 0, 0), (67, .getfield 97, 10, 10, 0, 760, 0, 0), (70, .invokestatic 163, 104, 1, 0, 971, 0, 0), (73, .ireturn, 0, 0, 0, 0, 0, 0), (74, .aload_n 0, 0, 0, 0, 0, 0, 0), (75, .aload_n 0, 0, 0, 0, 0, 0, 0), (76, .invokevirtual 144, 132, 1, 10, 927, 0, 0), (79, .invokevirtual 150, 131, 2, 10, 934, 0, 0), (82, .ireturn, 0, 0, 0, 0, 0, 0), (83, .aload_n 0, 0, 0, 0, 0, 0, 0), (84, .getfield 31, 10, 12, 0, 762, 0, 0), (87, .iload_n 1, 0, 0, 0, 0, 0, 0), (88, .iconst 4, 0, 0, 0, 0, 4, 0), (89, .isub, 0, 0, 0, 0, 0, 0), (90, .iaload, 0, 0, 0, 0, 0, 0), (91, .ireturn, 0, 0, 0, 0, 0, 0), (92, .aload_n 0, 0, 0, 0, 0, 0, 0), (93, .getfield 61, 10, 4, 0, 754, 0, 0), (96, .ireturn, 0, 0, 0, 0, 0, 0), (97, .bipush (-2), 0, 0, 0, 0, -2, 0), (99, .ireturn, 0, 0, 0, 0, 0, 0)]
def cd_X10_digest : List pm_R := [(0, .ldc2_w 228, 0, 0, 0, 1073, 0, 17), (3, .lstore_n 1, 0, 0, 0, 0, 0, 0), (4, .iconst 0, 0, 0, 0, 0, 0, 0), (5, .istore_n 3, 0, 0, 0, 0, 0, 0), (6, .iload_n 3, 0, 0, 0, 0, 0, 0), (7, .bipush 8, 0, 0, 0, 0, 8, 0), (9, .if_icmp .ge 22, 31, 0, 0, 0, 0, 0), (12, .ldc2_w 230, 0, 0, 0, 1074, 0, 31), (15, .lload_n 1, 0, 0, 0, 0, 0, 0), (16, .lmul, 0, 0, 0, 0, 0, 0), (17, .aload_n 0, 0, 0, 0, 0, 0, 0), (18, .iload_n 3, 0, 0, 0, 0, 0, 0), (19, .invokevirtual 232, 161, 2, 10, 1075, 0, 0), (22, .i2l, 0, 0, 0, 0, 0, 0), (23, .ladd, 0, 0, 0, 0, 0, 0), (24, .lstore_n 1, 0, 0, 0, 0, 0, 0), (25, .iinc 3 1, 0, 0, 0, 0, 1, 0), (28, .goto (-22), 6, 0, 0, 0, 0, 0), (31, .ldc2_w 230, 0, 0, 0, 1074, 0, 31), (34, .lload_n 1, 0, 0, 0, 0, 0, 0), (35, .lmul, 0, 0, 0, 0, 0, 0), (36, .aload_n 0, 0, 0, 0, 0, 0, 0), (37, .invokevirtual 115, 119, 1, 10, 864, 0, 0), (40, .i2l, 0, 0, 0, 0, 0, 0), (41, .ladd, 0, 0, 0, 0, 0, 0), (42, .lstore_n 1, 0, 0, 0, 0, 0, 0), (43, .iconst 0, 0, 0, 0, 0, 0, 0), (44, .istore_n 3, 0, 0, 0, 0, 0, 0), (45, .iload_n 3, 0, 0, 0, 0, 0, 0), (46, .aload_n 0, 0, 0, 0, 0, 0, 0), (47, .getfield 94, 10, 8, 0, 758, 0, 0), (50, .if_icmp .ge 72, 122, 0, 0, 0, 0, 0), (53, .iconst 0, 0, 0, 0, 0, 0, 0), (54, .istore 4, 0, 0, 0, 0, 0, 0), (56, .iload 4, 0, 0, 0, 0, 0, 0), (58, .iconst 3, 0, 0, 0, 0, 3, 0), (59, .if_icmp .ge 24, 83, 0, 0, 0, 0, 0), (62, .ldc2_w 230, 0, 0, 0, 1074, 0, 31), (65, .lload_n 1, 0, 0, 0, 0, 0, 0), (66, .lmul, 0, 0, 0, 0, 0, 0), (67, .aload_n 0, 0, 0, 0, 0, 0, 0), (68, .iload_n 3, 0, 0, 0, 0, 0, 0), (69, .iload 4, 0, 0, 0, 0, 0, 0), (71, .invokevirtual 121, 122, 3, 10, 890, 0, 0), (74, .i2l, 0, 0, 0, 0, 0, 0), (75, .ladd, 0, 0, 0, 0, 0, 0), (76, .lstore_n 1, 0, 0, 0, 0, 0, 0), (77, .iinc 4 1, 0, 0, 0, 0, 1, 0), (80, .goto (-24), 56, 0, 0, 0, 0, 0), (83, .ldc2_w 230, 0, 0, 0, 1074, 0, 31), (86, .lload_n 1, 0, 0, 0, 0, 0, 0), (87, .lmul, 0, 0, 0, 0, 0, 0), (88, .aload_n 0, 0, 0, 0, 0, 0, 0), (89, .aload_n 0, 0, 0, 0, 0, 0, 0), (90, .getfield 25, 10, 9, 0, 759, 0, 0), (93, .iload_n 3, 0, 0, 0, 0, 0, 0), (94, .iaload, 0, 0, 0, 0, 0, 0), (95, .invokevirtual 137, 128, 2, 10, 919, 0, 0), (98, .i2l, 0, 0, 0, 0, 0, 0), (99, .ladd, 0, 0, 0, 0, 0, 0), (100, .lstore_n 1, 0, 0, 0, 0, 0, 0), (101, .ldc2_w 230, 0, 0, 0, 1074, 0, 31), (104, .lload_n 1, 0, 0, 0, 0, 0, 0), (105, .lmul, 0, 0, 0, 0, 0, 0), (106, .aload_n 0, 0, 0, 0, 0, 0, 0), (107, .iload_n 3, 0, 0, 0, 0, 0, 0), (108, .bipush 20, 0, 0, 0, 0, 20, 0), (110, .invokevirtual 181, 143, 3, 10, 985, 0, 0), (113, .i2l, 0, 0, 0, 0, 0, 0), (114, .ladd, 0, 0, 0, 0, 0, 0), (115, .lstore_n 1, 0, 0, 0, 0, 0, 0), (116, .iinc 3 1, 0, 0, 0, 0, 1, 0), (119, .goto (-74), 45, 0, 0, 0, 0, 0), (122, .iconst 0, 0, 0, 0, 0, 0, 0), (123, .istore_n 3, 0, 0, 0, 0, 0, 0), (124, .iload_n 3, 0, 0, 0, 0, 0, 0), (125, .iconst 4, 0, 0, 0, 0, 4, 0), (126, .if_icmp .ge 22, 148, 0, 0, 0, 0, 0), (129, .ldc2_w 230, 0, 0, 0, 1074, 0, 31), (132, .lload_n 1, 0, 0, 0, 0, 0, 0), (133, .lmul, 0, 0, 0, 0, 0, 0), (134, .aload_n 0, 0, 0, 0, 0, 0, 0), (135, .iload_n 3, 0, 0, 0, 0, 0, 0), (136, .invokevirtual 157, 135, 2, 10, 945, 0, 0), (139, .i2l, 0, 0, 0, 0, 0, 0), (140, .ladd, 0, 0, 0, 0, 0, 0), (141, .lstore_n 1, 0, 0, 0, 0, 0, 0), (142, .iinc 3 1, 0, 0, 0, 0, 1, 0), (145, .goto (-21), 124, 0, 0, 0, 0, 0), (148, .ldc2_w 230, 0, 0, 0, 1074, 0, 31), (151, .lload_n 1, 0, 0, 0, 0, 0, 0), (152, .lmul, 0, 0, 0, 0, 0, 0), (153, .aload_n 0, 0, 0, 0, 0, 0, 0), (154, .bipush 120, 0, 0, 0, 0, 120, 0), (156, .invokevirtual 160, 137, 2, 10, 958, 0, 0), (159, .i2l, 0, 0, 0, 0, 0, 0), (160, .ladd, 0, 0, 0, 0, 0, 0), (161, .lstore_n 1, 0, 0, 0, 0, 0, 0), (162, .ldc2_w 230, 0, 0, 0, 1074, 0, 31), (165, .lload_n 1, 0, 0, 0, 0, 0, 0), (166, .lmul, 0, 0, 0, 0, 0, 0), (167, .aload_n 0, 0, 0, 0, 0, 0, 0), (168, .bipush 8, 0, 0, 0, 0, 8, 0), (170, .iconst 0, 0, 0, 0, 0, 0, 0), (171, .invokevirtual 172, 140, 3, 10, 967, 0, 0), (174, .i2l, 0, 0, 0, 0, 0, 0), (175, .ladd, 0, 0, 0, 0, 0, 0), (176, .lstore_n 1, 0, 0, 0, 0, 0, 0), (177, .ldc2_w 230, 0, 0, 0, 1074, 0, 31), (180, .lload_n 1, 0, 0, 0, 0, 0, 0), (181, .lmul, 0, 0, 0, 0, 0, 0), (182, .aload_n 0, 0, 0, 0, 0, 0, 0), (183, .bipush 8, 0, 0, 0, 0, 8, 0), (185, .iconst 1, 0, 0, 0, 0, 1, 0), (186, .invokevirtual 172, 140, 3, 10, 967, 0, 0), (189, .i2l, 0, 0, 0, 0, 0, 0), (190, .ladd, 0, 0, 0, 0, 0, 0), (191, .lstore_n 1, 0, 0, 0, 0, 0, 0), (192, .iconst 0, 0, 0, 0, 0, 0, 0), (193, .istore_n 3, 0, 0, 0, 0, 0, 0), (194, .iload_n 3, 0, 0, 0, 0, 0, 0), (195, .iconst 3, 0, 0, 0, 0, 3, 0), (196, .if_icmp .ge 27, 223, 0, 0, 0, 0, 0), (199, .ldc2_w 230, 0, 0, 0, 1074, 0, 31), (202, .lload_n 1, 0, 0, 0, 0, 0, 0), (203, .lmul, 0, 0, 0, 0, 0, 0), (204, .aload_n 0, 0, 0, 0, 0, 0, 0), (205, .sipush 500, 0, 0, 0, 0, 500, 0), (208, .bipush 21, 0, 0, 0, 0, 21, 0), (210, .iload_n 3, 0, 0, 0, 0, 0, 0), (211, .invokevirtual 184, 145, 4, 10, 997, 0, 0), (214, .i2l, 0, 0, 0, 0, 0, 0), (215, .ladd, 0, 0, 0, 0, 0, 0), (216, .lstore_n 1, 0, 0, 0, 0, 0, 0), (217, .iinc 3 1, 0, 0, 0, 0, 1, 0), (220, .goto (-26), 194, 0, 0, 0, 0, 0), (223, .iconst 1, 0, 0, 0, 0, 1, 0), (224, .istore_n 3, 0, 0, 0, 0, 0, 0), (225, .iload_n 3, 0, 0, 0, 0, 0, 0), (226, .iconst 4, 0, 0, 0, 0, 4, 0), (227, .if_icmp .ge 39, 266, 0, 0, 0, 0, 0), (230, .iconst 0, 0, 0, 0, 0, 0, 0), (231, .istore 4, 0, 0, 0, 0, 0, 0), (233, .iload 4, 0, 0, 0, 0, 0, 0), (235, .iconst 4, 0, 0, 0, 0, 4, 0), (236, .if_icmp .ge 24, 260, 0, 0, 0, 0, 0), (239, .ldc2_w 230, 0, 0, 0, 1074, 0, 31), (242, .lload_n 1, 0, 0, 0, 0, 0, 0), (243, .lmul, 0, 0, 0, 0, 0, 0), (244, .aload_n 0, 0, 0, 0, 0, 0, 0), (245, .iload_n 3, 0, 0, 0, 0, 0, 0), (246, .iload 4, 0, 0, 0, 0, 0, 0), (248, .invokevirtual 187, 147, 3, 10, 1005, 0, 0), (251, .i2l, 0, 0, 0, 0, 0, 0), (252, .ladd, 0, 0, 0, 0, 0, 0), (253, .lstore_n 1, 0, 0, 0, 0, 0, 0), (254, .iinc 4 1, 0, 0, 0, 0, 1, 0), (257, .goto (-24), 233, 0, 0, 0, 0, 0), (260, .iinc 3 1, 0, 0, 0, 0, 1, 0), (263, .goto (-38), 225, 0, 0, 0, 0, 0), (266, .ldc2_w 230, 0, 0, 0, 1074, 0, 31), (269, .lload_n 1, 0, 0, 0, 0, 0, 0), (270, .lmul, 0, 0, 0, 0, 0, 0), (271, .aload_n 0, 0, 0, 0, 0, 0, 0), (272, .bipush 60, 0, 0, 0, 0, 60, 0), (274, .iconst 3, 0, 0, 0, 0, 3, 0), (275, .iconst 0, 0, 0, 0, 0, 0, 0), (276, .invokevirtual 194, 149, 4, 10, 1015, 0, 0), (279, .i2l, 0, 0, 0, 0, 0, 0), (280, .ladd, 0, 0, 0, 0, 0, 0), (281, .lstore_n 1, 0, 0, 0, 0, 0, 0), (282, .ldc2_w 230, 0, 0, 0, 1074, 0, 31), (285, .lload_n 1, 0, 0, 0, 0, 0, 0), (286, .lmul, 0, 0, 0, 0, 0, 0), (287, .aload_n 0, 0, 0, 0, 0, 0, 0), (288, .bipush 60, 0, 0, 0, 0, 60, 0), (290, .iconst 3, 0, 0, 0, 0, 3, 0), (291, .iconst 1, 0, 0, 0, 0, 1, 0), (292, .invokevirtual 194, 149, 4, 10, 1015, 0, 0), (295, .i2l, 0, 0, 0, 0, 0, 0), (296, .ladd, 0, 0, 0, 0, 0, 0), (297, .lstore_n 1, 0, 0, 0, 0, 0, 0), (298, .iconst 0, 0, 0, 0, 0, 0, 0), (299, .istore_n 3, 0, 0, 0, 0, 0, 0), (300, .iload_n 3, 0, 0, 0, 0, 0, 0), (301, .iconst 4, 0, 0, 0, 0, 4, 0), (302, .if_icmp .ge 38, 340, 0, 0, 0, 0, 0), (305, .iconst 0, 0, 0, 0, 0, 0, 0), (306, .istore 4, 0, 0, 0, 0, 0, 0), (308, .iload 4, 0, 0, 0, 0, 0, 0), (310, .iconst 2, 0, 0, 0, 0, 2, 0), (311, .if_icmp .ge 23, 334, 0, 0, 0, 0, 0), (314, .ldc2_w 230, 0, 0, 0, 1074, 0, 31), (317, .lload_n 1, 0, 0, 0, 0, 0, 0), (318, .lmul, 0, 0, 0, 0, 0, 0), (319, .aload_n 0, 0, 0, 0, 0, 0, 0), (320, .iload_n 3, 0, 0, 0, 0, 0, 0), (321, .iload 4, 0, 0, 0, 0, 0, 0), (323, .invokevirtual 206, 153, 3, 10, 1023, 0, 0), (326, .ladd, 0, 0, 0, 0, 0, 0), (327, .lstore_n 1, 0, 0, 0, 0, 0, 0), (328, .iinc 4 1, 0, 0, 0, 0, 1, 0), (331, .goto (-23), 308, 0, 0, 0, 0, 0), (334, .iinc 3 1, 0, 0, 0, 0, 1, 0), (337, .goto (-37), 300, 0, 0, 0, 0, 0), (340, .ldc2_w 230, 0, 0, 0, 1074, 0, 31), (343, .lload_n 1, 0, 0, 0, 0, 0, 0), (344, .lmul, 0, 0, 0, 0, 0, 0), (345, .aload_n 0, 0, 0, 0, 0, 0, 0), (346, .iconst 5, 0, 0, 0, 0, 5, 0), (347, .bipush 14, 0, 0, 0, 0, 14, 0), (349, .bipush 31, 0, 0, 0, 0, 31, 0), (351, .iconst 0, 0, 0, 0, 0, 0, 0), (352, .invokevirtual 224, 158, 5, 10, 1053, 0, 0), (355, .i2l, 0, 0, 0, 0, 0, 0), (356, .ladd, 0, 0, 0, 0, 0, 0), (357, .lstore_n 1, 0, 0, 0, 0, 0, 0), (358, .ldc2_w 230, 0, 0, 0, 1074, 0, 31), (361, .lload_n 1, 0, 0, 0, 0, 0, 0), (362, .lmul, 0, 0, 0, 0, 0, 0), (363, .aload_n 0, 0, 0, 0, 0, 0, 0), (364, .iconst 5, 0, 0, 0, 0, 5, 0), (365, .bipush 14, 0, 0, 0, 0, 14, 0), (367, .bipush 31, 0, 0, 0, 0, 31, 0), (369, .iconst 1, 0, 0, 0, 0, 1, 0), (370, .invokevirtual 224, 158, 5, 10, 1053, 0, 0), (373, .i2l, 0, 0, 0, 0, 0, 0), (374, .ladd, 0, 0, 0, 0, 0, 0), (375, .lreturn, 0, 0, 0, 0, 0, 0)]
def cd_J6_bitCount_0f7a4 : List pm_R := [(0, .iload_n 0, 0, 0, 0, 0, 0, 0), (1, .iload_n 0, 0, 0, 0, 0, 0, 0), (2, .iconst 1, 0, 0, 0, 0, 1, 0), (3, .iushr, 0, 0, 0, 0, 0, 0), (4, .ldc_w 265, 0, 0, 0, 478, 1431655765, 0), (7, .iand, 0, 0, 0, 0, 0, 0), (8, .isub, 0, 0, 0, 0, 0, 0), (9, .istore_n 0, 0, 0, 0, 0, 0, 0), (10, .iload_n 0, 0, 0, 0, 0, 0, 0), (11, .ldc_w 266, 0, 0, 0, 479, 858993459, 0), (14, .iand, 0, 0, 0, 0, 0, 0), (15, .iload_n 0, 0, 0, 0, 0, 0, 0), (16, .iconst 2, 0, 0, 0, 0, 2, 0), (17, .iushr, 0, 0, 0, 0, 0, 0), (18, .ldc_w 266, 0, 0, 0, 479, 858993459, 0), (21, .iand, 0, 0, 0, 0, 0, 0), (22, .iadd, 0, 0, 0, 0, 0, 0), (23, .istore_n 0, 0, 0, 0, 0, 0, 0), (24, .iload_n 0, 0, 0, 0, 0, 0, 0), (25, .iload_n 0, 0, 0, 0, 0, 0, 0), (26, .iconst 4, 0, 0, 0, 0, 4, 0), (27, .iushr, 0, 0, 0, 0, 0, 0), (28, .iadd, 0, 0, 0, 0, 0, 0), (29, .ldc_w 267, 0, 0, 0, 480, 252645135, 0), (32, .iand, 0, 0, 0, 0, 0, 0), (33, .istore_n 0, 0, 0, 0, 0, 0, 0), (34, .iload_n 0, 0, 0, 0, 0, 0, 0), (35, .iload_n 0, 0, 0, 0, 0, 0, 0), (36, .bipush 8, 0, 0, 0, 0, 8, 0), (38, .iushr, 0, 0, 0, 0, 0, 0), (39, .iadd, 0, 0, 0, 0, 0, 0), (40, .istore_n 0, 0, 0, 0, 0, 0, 0), (41, .iload_n 0, 0, 0, 0, 0, 0, 0), (42, .iload_n 0, 0, 0, 0, 0, 0, 0), (43, .bipush 16, 0, 0, 0, 0, 16, 0), (45, .iushr, 0, 0, 0, 0, 0, 0), (46, .iadd, 0, 0, 0, 0, 0, 0), (47, .istore_n 0, 0, 0, 0, 0, 0, 0), (48, .iload_n 0, 0, 0, 0, 0, 0, 0), (49, .bipush 63, 0, 0, 0, 0, 63, 0), (51, .iand, 0, 0, 0, 0, 0, 0), (52, .ireturn, 0, 0, 0, 0, 0, 0)]
def cd_J7_fill_53178 : List pm_R := [(0, .iconst 0, 0, 0, 0, 0, 0, 0), (1, .istore_n 2, 0, 0, 0, 0, 0, 0), (2, .aload_n 0, 0, 0, 0, 0, 0, 0), (3, .arraylength, 0, 0, 0, 0, 0, 0), (4, .istore_n 3, 0, 0, 0, 0, 0, 0), (5, .iload_n 2, 0, 0, 0, 0, 0, 0), (6, .iload_n 3, 0, 0, 0, 0, 0, 0), (7, .if_icmp .ge 13, 20, 0, 0, 0, 0, 0), (10, .aload_n 0, 0, 0, 0, 0, 0, 0), (11, .iload_n 2, 0, 0, 0, 0, 0, 0), (12, .iload_n 1, 0, 0, 0, 0, 0, 0), (13, .iastore, 0, 0, 0, 0, 0, 0), (14, .iinc 2 1, 0, 0, 0, 0, 1, 0), (17, .goto (-12), 5, 0, 0, 0, 0, 0), (20, .return_, 0, 0, 0, 0, 0, 0)]
def cd_L_law : List pm_R := [(16, .iconst 0, 0, 0, 0, 0, 0, 0), (17, .istore_n 3, 0, 0, 0, 0, 0, 0), (18, .iload_n 3, 0, 0, 0, 0, 0, 0), (19, .aload_n 0, 0, 0, 0, 0, 0, 0), (20, .arraylength, 0, 0, 0, 0, 0, 0), (21, .bipush 6, 0, 0, 0, 0, 6, 0), (23, .isub, 0, 0, 0, 0, 0, 0), (24, .if_icmp .gt 1011, 1035, 0, 0, 0, 0, 0), (27, .aload_n 0, 0, 0, 0, 0, 0, 0), (28, .iload_n 3, 0, 0, 0, 0, 0, 0), (29, .iaload, 0, 0, 0, 0, 0, 0), (30, .bipush 31, 0, 0, 0, 0, 31, 0), (32, .iand, 0, 0, 0, 0, 0, 0), (33, .tableswitch 996 0 26 #[123, 146, 159, 172, 205, 238, 271, 294, 317, 350, 373, 396, 429, 462, 505, 538, 581, 615, 648, 701, 744, 767, 820, 863, 926, 959, 982], 123, 0, 0, 0, 0, 0), (156, .aload_n 1, 0, 0, 0, 0, 0, 0), (157, .aload_n 0, 0, 0, 0, 0, 0, 0), (158, .iload_n 3, 0, 0, 0, 0, 0, 0), (159, .iconst 1, 0, 0, 0, 0, 1, 0), (160, .iadd, 0, 0, 0, 0, 0, 0), (161, .iaload, 0, 0, 0, 0, 0, 0), (162, .invokevirtual 13, 64, 2, 9, 282, 0, 0), (165, .aload_n 2, 0, 0, 0, 0, 0, 0), (166, .aload_n 0, 0, 0, 0, 0, 0, 0), (167, .iload_n 3, 0, 0, 0, 0, 0, 0), (168, .iconst 1, 0, 0, 0, 0, 1, 0), (169, .iadd, 0, 0, 0, 0, 0, 0), (170, .iaload, 0, 0, 0, 0, 0, 0), (171, .invokevirtual 17, 114, 2, 10, 851, 0, 0), (174, .if_icmp .eq 855, 1029, 0, 0, 0, 0, 0), (177, .iconst 0, 0, 0, 0, 0, 0, 0), (178, .ireturn, 0, 0, 0, 0, 0, 0), (179, .aload_n 1, 0, 0, 0, 0, 0, 0), (180, .invokevirtual 18, 65, 1, 9, 321, 0, 0), (183, .aload_n 2, 0, 0, 0, 0, 0, 0), (184, .invokevirtual 22, 115, 1, 10, 856, 0, 0), (187, .if_icmp .eq 842, 1029, 0, 0, 0, 0, 0), (190, .iconst 0, 0, 0, 0, 0, 0, 0), (191, .ireturn, 0, 0, 0, 0, 0, 0), (192, .aload_n 1, 0, 0, 0, 0, 0, 0), (193, .invokevirtual 23, 66, 1, 9, 329, 0, 0), (196, .aload_n 2, 0, 0, 0, 0, 0, 0), (197, .invokevirtual 26, 120, 1, 10, 860, 0, 0), (200, .if_icmp .eq 829, 1029, 0, 0, 0, 0, 0), (203, .iconst 0, 0, 0, 0, 0, 0, 0), (204, .ireturn, 0, 0, 0, 0, 0, 0), (205, .aload_n 1, 0, 0, 0, 0, 0, 0), (206, .aload_n 0, 0, 0, 0, 0, 0, 0), (207, .iload_n 3, 0, 0, 0, 0, 0, 0), (208, .iconst 1, 0, 0, 0, 0, 1, 0), (209, .iadd, 0, 0, 0, 0, 0, 0), (210, .iaload, 0, 0, 0, 0, 0, 0), (211, .aload_n 0, 0, 0, 0, 0, 0, 0), (212, .iload_n 3, 0, 0, 0, 0, 0, 0), (213, .iconst 2, 0, 0, 0, 0, 2, 0), (214, .iadd, 0, 0, 0, 0, 0, 0), (215, .iaload, 0, 0, 0, 0, 0, 0), (216, .invokevirtual 27, 67, 3, 9, 337, 0, 0), (219, .aload_n 2, 0, 0, 0, 0, 0, 0), (220, .aload_n 0, 0, 0, 0, 0, 0, 0), (221, .iload_n 3, 0, 0, 0, 0, 0, 0), (222, .iconst 1, 0, 0, 0, 0, 1, 0), (223, .iadd, 0, 0, 0, 0, 0, 0), (224, .iaload, 0, 0, 0, 0, 0, 0), (225, .aload_n 0, 0, 0, 0, 0, 0, 0), (226, .iload_n 3, 0, 0, 0, 0, 0, 0), (227, .iconst 2, 0, 0, 0, 0, 2, 0), (228, .iadd, 0, 0, 0, 0, 0, 0), (229, .iaload, 0, 0, 0, 0, 0, 0), (230, .invokevirtual 31, 123, 3, 10, 882, 0, 0), (233, .if_icmp .eq 796, 1029, 0, 0, 0, 0, 0), (236, .iconst 0, 0, 0, 0, 0, 0, 0), (237, .ireturn, 0, 0, 0, 0, 0, 0), (238, .aload_n 1, 0, 0, 0, 0, 0, 0), (239, .aload_n 0, 0, 0, 0, 0, 0, 0), (240, .iload_n 3, 0, 0, 0, 0, 0, 0), (241, .iconst 1, 0, 0, 0, 0, 1, 0), (242, .iadd, 0, 0, 0, 0, 0, 0), (243, .iaload, 0, 0, 0, 0, 0, 0), (244, .aload_n 0, 0, 0, 0, 0, 0, 0), (245, .iload_n 3, 0, 0, 0, 0, 0, 0), (246, .iconst 2, 0, 0, 0, 0, 2, 0), (247, .iadd, 0, 0, 0, 0, 0, 0), (248, .iaload, 0, 0, 0, 0, 0, 0), (249, .invokevirtual 32, 68, 3, 9, 361, 0, 0), (252, .aload_n 2, 0, 0, 0, 0, 0, 0), (253, .aload_n 0, 0, 0, 0, 0, 0, 0), (254, .iload_n 3, 0, 0, 0, 0, 0, 0), (255, .iconst 1, 0, 0, 0, 0, 1, 0), (256, .iadd, 0, 0, 0, 0, 0, 0), (257, .iaload, 0, 0, 0, 0, 0, 0), (258, .aload_n 0, 0, 0, 0, 0, 0, 0), (259, .iload_n 3, 0, 0, 0, 0, 0, 0), (260, .iconst 2, 0, 0, 0, 0, 2, 0), (261, .iadd, 0, 0, 0, 0, 0, 0), (262, .iaload, 0, 0, 0, 0, 0, 0), (263, .invokevirtual 35, 124, 3, 10, 894, 0, 0), (266, .if_icmp .eq 763, 1029, 0, 0, 0, 0, 0), (269, .iconst 0, 0, 0, 0, 0, 0, 0), (270, .ireturn, 0, 0, 0, 0, 0, 0), (271, .aload_n 1, 0, 0, 0, 0, 0, 0), (272, .aload_n 0, 0, 0, 0, 0, 0, 0), (273, .iload_n 3, 0, 0, 0, 0, 0, 0), (274, .iconst 1, 0, 0, 0, 0, 1, 0), (275, .iadd, 0, 0, 0, 0, 0, 0), (276, .iaload, 0, 0, 0, 0, 0, 0), (277, .aload_n 0, 0, 0, 0, 0, 0, 0), (278, .iload_n 3, 0, 0, 0, 0, 0, 0), (279, .iconst 2, 0, 0, 0, 0, 2, 0), (280, .iadd, 0, 0, 0, 0, 0, 0), (281, .iaload, 0, 0, 0, 0, 0, 0), (282, .invokevirtual 36, 69, 3, 9, 381, 0, 0), (285, .aload_n 2, 0, 0, 0, 0, 0, 0), (286, .aload_n 0, 0, 0, 0, 0, 0, 0), (287, .iload_n 3, 0, 0, 0, 0, 0, 0), (288, .iconst 1, 0, 0, 0, 0, 1, 0), (289, .iadd, 0, 0, 0, 0, 0, 0), (290, .iaload, 0, 0, 0, 0, 0, 0), (291, .aload_n 0, 0, 0, 0, 0, 0, 0), (292, .iload_n 3, 0, 0, 0, 0, 0, 0), (293, .iconst 2, 0, 0, 0, 0, 2, 0), (294, .iadd, 0, 0, 0, 0, 0, 0), (295, .iaload, 0, 0, 0, 0, 0, 0), (296, .invokevirtual 39, 126, 3, 10, 898, 0, 0), (299, .if_icmp .eq 730, 1029, 0, 0, 0, 0, 0), (302, .iconst 0, 0, 0, 0, 0, 0, 0), (303, .ireturn, 0, 0, 0, 0, 0, 0), (304, .aload_n 1, 0, 0, 0, 0, 0, 0), (305, .aload_n 0, 0, 0, 0, 0, 0, 0), (306, .iload_n 3, 0, 0, 0, 0, 0, 0), (307, .iconst 1, 0, 0, 0, 0, 1, 0), (308, .iadd, 0, 0, 0, 0, 0, 0), (309, .iaload, 0, 0, 0, 0, 0, 0), (310, .invokevirtual 40, 70, 2, 9, 392, 0, 0), (313, .aload_n 2, 0, 0, 0, 0, 0, 0), (314, .aload_n 0, 0, 0, 0, 0, 0, 0), (315, .iload_n 3, 0, 0, 0, 0, 0, 0), (316, .iconst 1, 0, 0, 0, 0, 1, 0), (317, .iadd, 0, 0, 0, 0, 0, 0), (318, .iaload, 0, 0, 0, 0, 0, 0), (319, .invokevirtual 43, 127, 2, 10, 906, 0, 0), (322, .if_icmp .eq 707, 1029, 0, 0, 0, 0, 0), (325, .iconst 0, 0, 0, 0, 0, 0, 0), (326, .ireturn, 0, 0, 0, 0, 0, 0), (327, .aload_n 1, 0, 0, 0, 0, 0, 0), (328, .aload_n 0, 0, 0, 0, 0, 0, 0), (329, .iload_n 3, 0, 0, 0, 0, 0, 0), (330, .iconst 1, 0, 0, 0, 0, 1, 0), (331, .iadd, 0, 0, 0, 0, 0, 0), (332, .iaload, 0, 0, 0, 0, 0, 0), (333, .invokevirtual 44, 71, 2, 9, 418, 0, 0), (336, .aload_n 2, 0, 0, 0, 0, 0, 0), (337, .aload_n 0, 0, 0, 0, 0, 0, 0), (338, .iload_n 3, 0, 0, 0, 0, 0, 0), (339, .iconst 1, 0, 0, 0, 0, 1, 0), (340, .iadd, 0, 0, 0, 0, 0, 0), (341, .iaload, 0, 0, 0, 0, 0, 0), (342, .invokevirtual 47, 130, 2, 10, 911, 0, 0), (345, .if_icmp .eq 684, 1029, 0, 0, 0, 0, 0), (348, .iconst 0, 0, 0, 0, 0, 0, 0), (349, .ireturn, 0, 0, 0, 0, 0, 0), (350, .aload_n 1, 0, 0, 0, 0, 0, 0), (351, .aload_n 0, 0, 0, 0, 0, 0, 0), (352, .iload_n 3, 0, 0, 0, 0, 0, 0), (353, .iconst 1, 0, 0, 0, 0, 1, 0), (354, .iadd, 0, 0, 0, 0, 0, 0), (355, .iaload, 0, 0, 0, 0, 0, 0), (356, .aload_n 0, 0, 0, 0, 0, 0, 0), (357, .iload_n 3, 0, 0, 0, 0, 0, 0), (358, .iconst 2, 0, 0, 0, 0, 2, 0), (359, .iadd, 0, 0, 0, 0, 0, 0), (360, .iaload, 0, 0, 0, 0, 0, 0), (361, .invokevirtual 48, 72, 3, 9, 429, 0, 0), (364, .aload_n 2, 0, 0, 0, 0, 0, 0), (365, .aload_n 0, 0, 0, 0, 0, 0, 0), (366, .iload_n 3, 0, 0, 0, 0, 0, 0), (367, .iconst 1, 0, 0, 0, 0, 1, 0), (368, .iadd, 0, 0, 0, 0, 0, 0), (369, .iaload, 0, 0, 0, 0, 0, 0), (370, .aload_n 0, 0, 0, 0, 0, 0, 0), (371, .iload_n 3, 0, 0, 0, 0, 0, 0), (372, .iconst 2, 0, 0, 0, 0, 2, 0), (373, .iadd, 0, 0, 0, 0, 0, 0), (374, .iaload, 0, 0, 0, 0, 0, 0), (375, .invokevirtual 51, 133, 3, 10, 923, 0, 0), (378, .if_icmp .eq 651, 1029, 0, 0, 0, 0, 0), (381, .iconst 0, 0, 0, 0, 0, 0, 0), (382, .ireturn, 0, 0, 0, 0, 0, 0), (383, .aload_n 1, 0, 0, 0, 0, 0, 0), (384, .aload_n 0, 0, 0, 0, 0, 0, 0), (385, .iload_n 3, 0, 0, 0, 0, 0, 0), (386, .iconst 1, 0, 0, 0, 0, 1, 0), (387, .iadd, 0, 0, 0, 0, 0, 0), (388, .iaload, 0, 0, 0, 0, 0, 0), (389, .invokevirtual 52, 73, 2, 9, 452, 0, 0), (392, .aload_n 2, 0, 0, 0, 0, 0, 0), (393, .aload_n 0, 0, 0, 0, 0, 0, 0), (394, .iload_n 3, 0, 0, 0, 0, 0, 0), (395, .iconst 1, 0, 0, 0, 0, 1, 0), (396, .iadd, 0, 0, 0, 0, 0, 0), (397, .iaload, 0, 0, 0, 0, 0, 0), (398, .invokevirtual 55, 136, 2, 10, 941, 0, 0), (401, .if_icmp .eq 628, 1029, 0, 0, 0, 0, 0), (404, .iconst 0, 0, 0, 0, 0, 0, 0), (405, .ireturn, 0, 0, 0, 0, 0, 0), (406, .aload_n 1, 0, 0, 0, 0, 0, 0), (407, .aload_n 0, 0, 0, 0, 0, 0, 0), (408, .iload_n 3, 0, 0, 0, 0, 0, 0), (409, .iconst 1, 0, 0, 0, 0, 1, 0), (410, .iadd, 0, 0, 0, 0, 0, 0), (411, .iaload, 0, 0, 0, 0, 0, 0), (412, .invokevirtual 56, 74, 2, 9, 505, 0, 0), (415, .aload_n 2, 0, 0, 0, 0, 0, 0), (416, .aload_n 0, 0, 0, 0, 0, 0, 0), (417, .iload_n 3, 0, 0, 0, 0, 0, 0), (418, .iconst 1, 0, 0, 0, 0, 1, 0), (419, .iadd, 0, 0, 0, 0, 0, 0), (420, .iaload, 0, 0, 0, 0, 0, 0), (421, .invokevirtual 59, 138, 2, 10, 954, 0, 0), (424, .if_icmp .eq 605, 1029, 0, 0, 0, 0, 0), (427, .iconst 0, 0, 0, 0, 0, 0, 0), (428, .ireturn, 0, 0, 0, 0, 0, 0), (429, .aload_n 1, 0, 0, 0, 0, 0, 0), (430, .aload_n 0, 0, 0, 0, 0, 0, 0), (431, .iload_n 3, 0, 0, 0, 0, 0, 0), (432, .iconst 1, 0, 0, 0, 0, 1, 0), (433, .iadd, 0, 0, 0, 0, 0, 0), (434, .iaload, 0, 0, 0, 0, 0, 0), (435, .aload_n 0, 0, 0, 0, 0, 0, 0), (436, .iload_n 3, 0, 0, 0, 0, 0, 0), (437, .iconst 2, 0, 0, 0, 0, 2, 0), (438, .iadd, 0, 0, 0, 0, 0, 0), (439, .iaload, 0, 0, 0, 0, 0, 0), (440, .invokevirtual 60, 75, 3, 9, 509, 0, 0), (443, .aload_n 2, 0, 0, 0, 0, 0, 0), (444, .aload_n 0, 0, 0, 0, 0, 0, 0), (445, .iload_n 3, 0, 0, 0, 0, 0, 0), (446, .iconst 1, 0, 0, 0, 0, 1, 0), (447, .iadd, 0, 0, 0, 0, 0, 0), (448, .iaload, 0, 0, 0, 0, 0, 0), (449, .aload_n 0, 0, 0, 0, 0, 0, 0), (450, .iload_n 3, 0, 0, 0, 0, 0, 0), (451, .iconst 2, 0, 0, 0, 0, 2, 0), (452, .iadd, 0, 0, 0, 0, 0, 0), (453, .iaload, 0, 0, 0, 0, 0, 0), (454, .invokevirtual 63, 141, 3, 10, 962, 0, 0), (457, .if_icmp .eq 572, 1029, 0, 0, 0, 0, 0), (460, .iconst 0, 0, 0, 0, 0, 0, 0), (461, .ireturn, 0, 0, 0, 0, 0, 0), (462, .aload_n 1, 0, 0, 0, 0, 0, 0), (463, .aload_n 0, 0, 0, 0, 0, 0, 0), (464, .iload_n 3, 0, 0, 0, 0, 0, 0), (465, .iconst 1, 0, 0, 0, 0, 1, 0), (466, .iadd, 0, 0, 0, 0, 0, 0), (467, .iaload, 0, 0, 0, 0, 0, 0), (468, .aload_n 0, 0, 0, 0, 0, 0, 0), (469, .iload_n 3, 0, 0, 0, 0, 0, 0), (470, .iconst 2, 0, 0, 0, 0, 2, 0), (471, .iadd, 0, 0, 0, 0, 0, 0), (472, .iaload, 0, 0, 0, 0, 0, 0), (473, .invokevirtual 64, 76, 3, 9, 525, 0, 0), (476, .aload_n 2, 0, 0, 0, 0, 0, 0), (477, .aload_n 0, 0, 0, 0, 0, 0, 0), (478, .iload_n 3, 0, 0, 0, 0, 0, 0), (479, .iconst 1, 0, 0, 0, 0, 1, 0), (480, .iadd, 0, 0, 0, 0, 0, 0), (481, .iaload, 0, 0, 0, 0, 0, 0), (482, .aload_n 0, 0, 0, 0, 0, 0, 0), (483, .iload_n 3, 0, 0, 0, 0, 0, 0), (484, .iconst 2, 0, 0, 0, 0, 2, 0), (485, .iadd, 0, 0, 0, 0, 0, 0), (486, .iaload, 0, 0, 0, 0, 0, 0), (487, .invokevirtual 67, 144, 3, 10, 980, 0, 0), (490, .if_icmp .eq 539, 1029, 0, 0, 0, 0, 0), (493, .iconst 0, 0, 0, 0, 0, 0, 0), (494, .ireturn, 0, 0, 0, 0, 0, 0), (495, .aload_n 1, 0, 0, 0, 0, 0, 0), (496, .aload_n 0, 0, 0, 0, 0, 0, 0), (497, .iload_n 3, 0, 0, 0, 0, 0, 0), (498, .iconst 1, 0, 0, 0, 0, 1, 0), (499, .iadd, 0, 0, 0, 0, 0, 0), (500, .iaload, 0, 0, 0, 0, 0, 0), (501, .aload_n 0, 0, 0, 0, 0, 0, 0), (502, .iload_n 3, 0, 0, 0, 0, 0, 0), (503, .iconst 2, 0, 0, 0, 0, 2, 0), (504, .iadd, 0, 0, 0, 0, 0, 0), (505, .iaload, 0, 0, 0, 0, 0, 0), (506, .aload_n 0, 0, 0, 0, 0, 0, 0), (507, .iload_n 3, 0, 0, 0, 0, 0, 0), (508, .iconst 3, 0, 0, 0, 0, 3, 0), (509, .iadd, 0, 0, 0, 0, 0, 0), (510, .iaload, 0, 0, 0, 0, 0, 0), (511, .invokevirtual 68, 77, 4, 9, 537, 0, 0), (514, .aload_n 2, 0, 0, 0, 0, 0, 0), (515, .aload_n 0, 0, 0, 0, 0, 0, 0), (516, .iload_n 3, 0, 0, 0, 0, 0, 0), (517, .iconst 1, 0, 0, 0, 0, 1, 0), (518, .iadd, 0, 0, 0, 0, 0, 0), (519, .iaload, 0, 0, 0, 0, 0, 0), (520, .aload_n 0, 0, 0, 0, 0, 0, 0), (521, .iload_n 3, 0, 0, 0, 0, 0, 0), (522, .iconst 2, 0, 0, 0, 0, 2, 0), (523, .iadd, 0, 0, 0, 0, 0, 0), (524, .iaload, 0, 0, 0, 0, 0, 0), (525, .aload_n 0, 0, 0, 0, 0, 0, 0), (526, .iload_n 3, 0, 0, 0, 0, 0, 0), (527, .iconst 3, 0, 0, 0, 0, 3, 0), (528, .iadd, 0, 0, 0, 0, 0, 0), (529, .iaload, 0, 0, 0, 0, 0, 0), (530, .invokevirtual 72, 146, 4, 10, 993, 0, 0), (533, .if_icmp .eq 496, 1029, 0, 0, 0, 0, 0), (536, .iconst 0, 0, 0, 0, 0, 0, 0), (537, .ireturn, 0, 0, 0, 0, 0, 0), (538, .aload_n 1, 0, 0, 0, 0, 0, 0), (539, .aload_n 0, 0, 0, 0, 0, 0, 0), (540, .iload_n 3, 0, 0, 0, 0, 0, 0), (541, .iconst 1, 0, 0, 0, 0, 1, 0), (542, .iadd, 0, 0, 0, 0, 0, 0), (543, .iaload, 0, 0, 0, 0, 0, 0), (544, .aload_n 0, 0, 0, 0, 0, 0, 0), (545, .iload_n 3, 0, 0, 0, 0, 0, 0), (546, .iconst 2, 0, 0, 0, 0, 2, 0), (547, .iadd, 0, 0, 0, 0, 0, 0), (548, .iaload, 0, 0, 0, 0, 0, 0), (549, .invokevirtual 73, 78, 3, 9, 558, 0, 0), (552, .aload_n 2, 0, 0, 0, 0, 0, 0), (553, .aload_n 0, 0, 0, 0, 0, 0, 0), (554, .iload_n 3, 0, 0, 0, 0, 0, 0), (555, .iconst 1, 0, 0, 0, 0, 1, 0), (556, .iadd, 0, 0, 0, 0, 0, 0), (557, .iaload, 0, 0, 0, 0, 0, 0), (558, .aload_n 0, 0, 0, 0, 0, 0, 0), (559, .iload_n 3, 0, 0, 0, 0, 0, 0), (560, .iconst 2, 0, 0, 0, 0, 2, 0), (561, .iadd, 0, 0, 0, 0, 0, 0), (562, .iaload, 0, 0, 0, 0, 0, 0), (563, .invokevirtual 76, 148, 3, 10, 1001, 0, 0), (566, .if_icmp .eq 463, 1029, 0, 0, 0, 0, 0), (569, .iconst 0, 0, 0, 0, 0, 0, 0), (570, .ireturn, 0, 0, 0, 0, 0, 0), (571, .aload_n 1, 0, 0, 0, 0, 0, 0), (572, .aload_n 0, 0, 0, 0, 0, 0, 0), (573, .iload_n 3, 0, 0, 0, 0, 0, 0), (574, .iconst 1, 0, 0, 0, 0, 1, 0), (575, .iadd, 0, 0, 0, 0, 0, 0), (576, .iaload, 0, 0, 0, 0, 0, 0), (577, .aload_n 0, 0, 0, 0, 0, 0, 0), (578, .iload_n 3, 0, 0, 0, 0, 0, 0), (579, .iconst 2, 0, 0, 0, 0, 2, 0), (580, .iadd, 0, 0, 0, 0, 0, 0), (581, .iaload, 0, 0, 0, 0, 0, 0), (582, .aload_n 0, 0, 0, 0, 0, 0, 0), (583, .iload_n 3, 0, 0, 0, 0, 0, 0), (584, .iconst 3, 0, 0, 0, 0, 3, 0), (585, .iadd, 0, 0, 0, 0, 0, 0), (586, .iaload, 0, 0, 0, 0, 0, 0), (587, .invokevirtual 77, 79, 4, 9, 582, 0, 0), (590, .aload_n 2, 0, 0, 0, 0, 0, 0), (591, .aload_n 0, 0, 0, 0, 0, 0, 0), (592, .iload_n 3, 0, 0, 0, 0, 0, 0), (593, .iconst 1, 0, 0, 0, 0, 1, 0), (594, .iadd, 0, 0, 0, 0, 0, 0), (595, .iaload, 0, 0, 0, 0, 0, 0), (596, .aload_n 0, 0, 0, 0, 0, 0, 0), (597, .iload_n 3, 0, 0, 0, 0, 0, 0), (598, .iconst 2, 0, 0, 0, 0, 2, 0), (599, .iadd, 0, 0, 0, 0, 0, 0), (600, .iaload, 0, 0, 0, 0, 0, 0), (601, .aload_n 0, 0, 0, 0, 0, 0, 0), (602, .iload_n 3, 0, 0, 0, 0, 0, 0), (603, .iconst 3, 0, 0, 0, 0, 3, 0), (604, .iadd, 0, 0, 0, 0, 0, 0), (605, .iaload, 0, 0, 0, 0, 0, 0), (606, .invokevirtual 80, 150, 4, 10, 1009, 0, 0), (609, .if_icmp .eq 420, 1029, 0, 0, 0, 0, 0), (612, .iconst 0, 0, 0, 0, 0, 0, 0), (613, .ireturn, 0, 0, 0, 0, 0, 0), (614, .aload_n 1, 0, 0, 0, 0, 0, 0), (615, .aload_n 0, 0, 0, 0, 0, 0, 0), (616, .iload_n 3, 0, 0, 0, 0, 0, 0), (617, .iconst 1, 0, 0, 0, 0, 1, 0), (618, .iadd, 0, 0, 0, 0, 0, 0), (619, .iaload, 0, 0, 0, 0, 0, 0), (620, .aload_n 0, 0, 0, 0, 0, 0, 0), (621, .iload_n 3, 0, 0, 0, 0, 0, 0), (622, .iconst 2, 0, 0, 0, 0, 2, 0), (623, .iadd, 0, 0, 0, 0, 0, 0), (624, .iaload, 0, 0, 0, 0, 0, 0), (625, .invokevirtual 81, 80, 3, 9, 595, 0, 0), (628, .aload_n 2, 0, 0, 0, 0, 0, 0), (629, .aload_n 0, 0, 0, 0, 0, 0, 0), (630, .iload_n 3, 0, 0, 0, 0, 0, 0), (631, .iconst 1, 0, 0, 0, 0, 1, 0), (632, .iadd, 0, 0, 0, 0, 0, 0), (633, .iaload, 0, 0, 0, 0, 0, 0), (634, .aload_n 0, 0, 0, 0, 0, 0, 0), (635, .iload_n 3, 0, 0, 0, 0, 0, 0), (636, .iconst 2, 0, 0, 0, 0, 2, 0), (637, .iadd, 0, 0, 0, 0, 0, 0), (638, .iaload, 0, 0, 0, 0, 0, 0), (639, .invokevirtual 85, 154, 3, 10, 1019, 0, 0), (642, .lcmp, 0, 0, 0, 0, 0, 0), (643, .ifCond .eq 386, 1029, 0, 0, 0, 0, 0), (646, .iconst 0, 0, 0, 0, 0, 0, 0), (647, .ireturn, 0, 0, 0, 0, 0, 0), (648, .aload_n 1, 0, 0, 0, 0, 0, 0), (649, .aload_n 0, 0, 0, 0, 0, 0, 0), (650, .iload_n 3, 0, 0, 0, 0, 0, 0), (651, .iconst 1, 0, 0, 0, 0, 1, 0), (652, .iadd, 0, 0, 0, 0, 0, 0), (653, .iaload, 0, 0, 0, 0, 0, 0), (654, .aload_n 0, 0, 0, 0, 0, 0, 0), (655, .iload_n 3, 0, 0, 0, 0, 0, 0), (656, .iconst 2, 0, 0, 0, 0, 2, 0), (657, .iadd, 0, 0, 0, 0, 0, 0), (658, .iaload, 0, 0, 0, 0, 0, 0), (659, .invokevirtual 86, 81, 3, 9, 617, 0, 0), (662, .aload_n 2, 0, 0, 0, 0, 0, 0), (663, .aload_n 0, 0, 0, 0, 0, 0, 0), (664, .iload_n 3, 0, 0, 0, 0, 0, 0), (665, .iconst 1, 0, 0, 0, 0, 1, 0), (666, .iadd, 0, 0, 0, 0, 0, 0), (667, .iaload, 0, 0, 0, 0, 0, 0), (668, .aload_n 0, 0, 0, 0, 0, 0, 0), (669, .iload_n 3, 0, 0, 0, 0, 0, 0), (670, .iconst 2, 0, 0, 0, 0, 2, 0), (671, .iadd, 0, 0, 0, 0, 0, 0), (672, .iaload, 0, 0, 0, 0, 0, 0), (673, .invokevirtual 89, 156, 3, 10, 1039, 0, 0), (676, .if_icmp .eq 353, 1029, 0, 0, 0, 0, 0), (679, .iconst 0, 0, 0, 0, 0, 0, 0), (680, .ireturn, 0, 0, 0, 0, 0, 0), (681, .aload_n 1, 0, 0, 0, 0, 0, 0), (682, .aload_n 0, 0, 0, 0, 0, 0, 0), (683, .iload_n 3, 0, 0, 0, 0, 0, 0), (684, .iconst 1, 0, 0, 0, 0, 1, 0), (685, .iadd, 0, 0, 0, 0, 0, 0), (686, .iaload, 0, 0, 0, 0, 0, 0), (687, .aload_n 0, 0, 0, 0, 0, 0, 0), (688, .iload_n 3, 0, 0, 0, 0, 0, 0), (689, .iconst 2, 0, 0, 0, 0, 2, 0), (690, .iadd, 0, 0, 0, 0, 0, 0), (691, .iaload, 0, 0, 0, 0, 0, 0), (692, .aload_n 0, 0, 0, 0, 0, 0, 0), (693, .iload_n 3, 0, 0, 0, 0, 0, 0), (694, .iconst 3, 0, 0, 0, 0, 3, 0), (695, .iadd, 0, 0, 0, 0, 0, 0), (696, .iaload, 0, 0, 0, 0, 0, 0), (697, .aload_n 0, 0, 0, 0, 0, 0, 0), (698, .iload_n 3, 0, 0, 0, 0, 0, 0), (699, .iconst 4, 0, 0, 0, 0, 4, 0), (700, .iadd, 0, 0, 0, 0, 0, 0), (701, .iaload, 0, 0, 0, 0, 0, 0), (702, .invokevirtual 90, 82, 5, 9, 629, 0, 0), (705, .aload_n 2, 0, 0, 0, 0, 0, 0), (706, .aload_n 0, 0, 0, 0, 0, 0, 0), (707, .iload_n 3, 0, 0, 0, 0, 0, 0), (708, .iconst 1, 0, 0, 0, 0, 1, 0), (709, .iadd, 0, 0, 0, 0, 0, 0), (710, .iaload, 0, 0, 0, 0, 0, 0), (711, .aload_n 0, 0, 0, 0, 0, 0, 0), (712, .iload_n 3, 0, 0, 0, 0, 0, 0), (713, .iconst 2, 0, 0, 0, 0, 2, 0), (714, .iadd, 0, 0, 0, 0, 0, 0), (715, .iaload, 0, 0, 0, 0, 0, 0), (716, .aload_n 0, 0, 0, 0, 0, 0, 0), (717, .iload_n 3, 0, 0, 0, 0, 0, 0), (718, .iconst 3, 0, 0, 0, 0, 3, 0), (719, .iadd, 0, 0, 0, 0, 0, 0), (720, .iaload, 0, 0, 0, 0, 0, 0), (721, .aload_n 0, 0, 0, 0, 0, 0, 0), (722, .iload_n 3, 0, 0, 0, 0, 0, 0), (723, .iconst 4, 0, 0, 0, 0, 4, 0), (724, .iadd, 0, 0, 0, 0, 0, 0), (725, .iaload, 0, 0, 0, 0, 0, 0), (726, .invokevirtual 94, 159, 5, 10, 1047, 0, 0), (729, .if_icmp .eq 300, 1029, 0, 0, 0, 0, 0), (732, .iconst 0, 0, 0, 0, 0, 0, 0), (733, .ireturn, 0, 0, 0, 0, 0, 0), (734, .aload_n 1, 0, 0, 0, 0, 0, 0), (735, .aload_n 0, 0, 0, 0, 0, 0, 0), (736, .iload_n 3, 0, 0, 0, 0, 0, 0), (737, .iconst 1, 0, 0, 0, 0, 1, 0), (738, .iadd, 0, 0, 0, 0, 0, 0), (739, .iaload, 0, 0, 0, 0, 0, 0), (740, .aload_n 0, 0, 0, 0, 0, 0, 0), (741, .iload_n 3, 0, 0, 0, 0, 0, 0), (742, .iconst 2, 0, 0, 0, 0, 2, 0), (743, .iadd, 0, 0, 0, 0, 0, 0), (744, .iaload, 0, 0, 0, 0, 0, 0), (745, .aload_n 0, 0, 0, 0, 0, 0, 0), (746, .iload_n 3, 0, 0, 0, 0, 0, 0), (747, .iconst 3, 0, 0, 0, 0, 3, 0), (748, .iadd, 0, 0, 0, 0, 0, 0), (749, .iaload, 0, 0, 0, 0, 0, 0), (750, .invokevirtual 95, 83, 4, 9, 649, 0, 0), (753, .aload_n 2, 0, 0, 0, 0, 0, 0), (754, .aload_n 0, 0, 0, 0, 0, 0, 0), (755, .iload_n 3, 0, 0, 0, 0, 0, 0), (756, .iconst 1, 0, 0, 0, 0, 1, 0), (757, .iadd, 0, 0, 0, 0, 0, 0), (758, .iaload, 0, 0, 0, 0, 0, 0), (759, .aload_n 0, 0, 0, 0, 0, 0, 0), (760, .iload_n 3, 0, 0, 0, 0, 0, 0), (761, .iconst 2, 0, 0, 0, 0, 2, 0), (762, .iadd, 0, 0, 0, 0, 0, 0), (763, .iaload, 0, 0, 0, 0, 0, 0), (764, .aload_n 0, 0, 0, 0, 0, 0, 0), (765, .iload_n 3, 0, 0, 0, 0, 0, 0), (766, .iconst 3, 0, 0, 0, 0, 3, 0), (767, .iadd, 0, 0, 0, 0, 0, 0), (768, .iaload, 0, 0, 0, 0, 0, 0), (769, .invokevirtual 98, 107, 4, 10, 811, 0, 0), (772, .if_icmp .eq 257, 1029, 0, 0, 0, 0, 0), (775, .iconst 0, 0, 0, 0, 0, 0, 0), (776, .ireturn, 0, 0, 0, 0, 0, 0), (777, .aload_n 1, 0, 0, 0, 0, 0, 0), (778, .aload_n 0, 0, 0, 0, 0, 0, 0), (779, .iload_n 3, 0, 0, 0, 0, 0, 0), (780, .iconst 1, 0, 0, 0, 0, 1, 0), (781, .iadd, 0, 0, 0, 0, 0, 0), (782, .iaload, 0, 0, 0, 0, 0, 0), (783, .invokevirtual 99, 84, 2, 9, 661, 0, 0), (786, .aload_n 2, 0, 0, 0, 0, 0, 0), (787, .aload_n 0, 0, 0, 0, 0, 0, 0), (788, .iload_n 3, 0, 0, 0, 0, 0, 0), (789, .iconst 1, 0, 0, 0, 0, 1, 0), (790, .iadd, 0, 0, 0, 0, 0, 0), (791, .iaload, 0, 0, 0, 0, 0, 0), (792, .invokevirtual 102, 108, 2, 10, 827, 0, 0), (795, .if_icmp .eq 234, 1029, 0, 0, 0, 0, 0), (798, .iconst 0, 0, 0, 0, 0, 0, 0), (799, .ireturn, 0, 0, 0, 0, 0, 0), (800, .aload_n 1, 0, 0, 0, 0, 0, 0), (801, .aload_n 0, 0, 0, 0, 0, 0, 0), (802, .iload_n 3, 0, 0, 0, 0, 0, 0), (803, .iconst 1, 0, 0, 0, 0, 1, 0), (804, .iadd, 0, 0, 0, 0, 0, 0), (805, .iaload, 0, 0, 0, 0, 0, 0), (806, .aload_n 0, 0, 0, 0, 0, 0, 0), (807, .iload_n 3, 0, 0, 0, 0, 0, 0), (808, .iconst 2, 0, 0, 0, 0, 2, 0), (809, .iadd, 0, 0, 0, 0, 0, 0), (810, .iaload, 0, 0, 0, 0, 0, 0), (811, .aload_n 0, 0, 0, 0, 0, 0, 0), (812, .iload_n 3, 0, 0, 0, 0, 0, 0), (813, .iconst 3, 0, 0, 0, 0, 3, 0), (814, .iadd, 0, 0, 0, 0, 0, 0), (815, .iaload, 0, 0, 0, 0, 0, 0), (816, .aload_n 0, 0, 0, 0, 0, 0, 0), (817, .iload_n 3, 0, 0, 0, 0, 0, 0), (818, .iconst 4, 0, 0, 0, 0, 4, 0), (819, .iadd, 0, 0, 0, 0, 0, 0), (820, .iaload, 0, 0, 0, 0, 0, 0), (821, .invokevirtual 103, 85, 5, 9, 669, 0, 0), (824, .aload_n 2, 0, 0, 0, 0, 0, 0), (825, .aload_n 0, 0, 0, 0, 0, 0, 0), (826, .iload_n 3, 0, 0, 0, 0, 0, 0), (827, .iconst 1, 0, 0, 0, 0, 1, 0), (828, .iadd, 0, 0, 0, 0, 0, 0), (829, .iaload, 0, 0, 0, 0, 0, 0), (830, .aload_n 0, 0, 0, 0, 0, 0, 0), (831, .iload_n 3, 0, 0, 0, 0, 0, 0), (832, .iconst 2, 0, 0, 0, 0, 2, 0), (833, .iadd, 0, 0, 0, 0, 0, 0), (834, .iaload, 0, 0, 0, 0, 0, 0), (835, .aload_n 0, 0, 0, 0, 0, 0, 0), (836, .iload_n 3, 0, 0, 0, 0, 0, 0), (837, .iconst 3, 0, 0, 0, 0, 3, 0), (838, .iadd, 0, 0, 0, 0, 0, 0), (839, .iaload, 0, 0, 0, 0, 0, 0), (840, .aload_n 0, 0, 0, 0, 0, 0, 0), (841, .iload_n 3, 0, 0, 0, 0, 0, 0), (842, .iconst 4, 0, 0, 0, 0, 4, 0), (843, .iadd, 0, 0, 0, 0, 0, 0), (844, .iaload, 0, 0, 0, 0, 0, 0), (845, .invokevirtual 106, 111, 5, 10, 831, 0, 0), (848, .if_icmp .eq 181, 1029, 0, 0, 0, 0, 0), (851, .iconst 0, 0, 0, 0, 0, 0, 0), (852, .ireturn, 0, 0, 0, 0, 0, 0), (853, .aload_n 1, 0, 0, 0, 0, 0, 0), (854, .aload_n 0, 0, 0, 0, 0, 0, 0), (855, .iload_n 3, 0, 0, 0, 0, 0, 0), (856, .iconst 1, 0, 0, 0, 0, 1, 0), (857, .iadd, 0, 0, 0, 0, 0, 0), (858, .iaload, 0, 0, 0, 0, 0, 0), (859, .aload_n 0, 0, 0, 0, 0, 0, 0), (860, .iload_n 3, 0, 0, 0, 0, 0, 0), (861, .iconst 2, 0, 0, 0, 0, 2, 0), (862, .iadd, 0, 0, 0, 0, 0, 0), (863, .iaload, 0, 0, 0, 0, 0, 0), (864, .aload_n 0, 0, 0, 0, 0, 0, 0), (865, .iload_n 3, 0, 0, 0, 0, 0, 0), (866, .iconst 3, 0, 0, 0, 0, 3, 0), (867, .iadd, 0, 0, 0, 0, 0, 0), (868, .iaload, 0, 0, 0, 0, 0, 0), (869, .invokevirtual 107, 86, 4, 9, 683, 0, 0), (872, .aload_n 2, 0, 0, 0, 0, 0, 0), (873, .aload_n 0, 0, 0, 0, 0, 0, 0), (874, .iload_n 3, 0, 0, 0, 0, 0, 0), (875, .iconst 1, 0, 0, 0, 0, 1, 0), (876, .iadd, 0, 0, 0, 0, 0, 0), (877, .iaload, 0, 0, 0, 0, 0, 0), (878, .aload_n 0, 0, 0, 0, 0, 0, 0), (879, .iload_n 3, 0, 0, 0, 0, 0, 0), (880, .iconst 2, 0, 0, 0, 0, 2, 0), (881, .iadd, 0, 0, 0, 0, 0, 0), (882, .iaload, 0, 0, 0, 0, 0, 0), (883, .aload_n 0, 0, 0, 0, 0, 0, 0), (884, .iload_n 3, 0, 0, 0, 0, 0, 0), (885, .iconst 3, 0, 0, 0, 0, 3, 0), (886, .iadd, 0, 0, 0, 0, 0, 0), (887, .iaload, 0, 0, 0, 0, 0, 0), (888, .invokevirtual 110, 112, 4, 10, 842, 0, 0), (891, .if_icmp .eq 138, 1029, 0, 0, 0, 0, 0), (894, .iconst 0, 0, 0, 0, 0, 0, 0), (895, .ireturn, 0, 0, 0, 0, 0, 0), (896, .aload_n 1, 0, 0, 0, 0, 0, 0), (897, .aload_n 0, 0, 0, 0, 0, 0, 0), (898, .iload_n 3, 0, 0, 0, 0, 0, 0), (899, .iconst 1, 0, 0, 0, 0, 1, 0), (900, .iadd, 0, 0, 0, 0, 0, 0), (901, .iaload, 0, 0, 0, 0, 0, 0), (902, .aload_n 0, 0, 0, 0, 0, 0, 0), (903, .iload_n 3, 0, 0, 0, 0, 0, 0), (904, .iconst 2, 0, 0, 0, 0, 2, 0), (905, .iadd, 0, 0, 0, 0, 0, 0), (906, .iaload, 0, 0, 0, 0, 0, 0), (907, .aload_n 0, 0, 0, 0, 0, 0, 0), (908, .iload_n 3, 0, 0, 0, 0, 0, 0), (909, .iconst 3, 0, 0, 0, 0, 3, 0), (910, .iadd, 0, 0, 0, 0, 0, 0), (911, .iaload, 0, 0, 0, 0, 0, 0), (912, .aload_n 0, 0, 0, 0, 0, 0, 0), (913, .iload_n 3, 0, 0, 0, 0, 0, 0), (914, .iconst 4, 0, 0, 0, 0, 4, 0), (915, .iadd, 0, 0, 0, 0, 0, 0), (916, .iaload, 0, 0, 0, 0, 0, 0), (917, .aload_n 0, 0, 0, 0, 0, 0, 0), (918, .iload_n 3, 0, 0, 0, 0, 0, 0), (919, .iconst 5, 0, 0, 0, 0, 5, 0), (920, .iadd, 0, 0, 0, 0, 0, 0), (921, .iaload, 0, 0, 0, 0, 0, 0), (922, .invokevirtual 111, 87, 6, 9, 688, 0, 0), (925, .aload_n 2, 0, 0, 0, 0, 0, 0), (926, .aload_n 0, 0, 0, 0, 0, 0, 0), (927, .iload_n 3, 0, 0, 0, 0, 0, 0), (928, .iconst 1, 0, 0, 0, 0, 1, 0), (929, .iadd, 0, 0, 0, 0, 0, 0), (930, .iaload, 0, 0, 0, 0, 0, 0), (931, .aload_n 0, 0, 0, 0, 0, 0, 0), (932, .iload_n 3, 0, 0, 0, 0, 0, 0), (933, .iconst 2, 0, 0, 0, 0, 2, 0), (934, .iadd, 0, 0, 0, 0, 0, 0), (935, .iaload, 0, 0, 0, 0, 0, 0), (936, .aload_n 0, 0, 0, 0, 0, 0, 0), (937, .iload_n 3, 0, 0, 0, 0, 0, 0), (938, .iconst 3, 0, 0, 0, 0, 3, 0), (939, .iadd, 0, 0, 0, 0, 0, 0), (940, .iaload, 0, 0, 0, 0, 0, 0), (941, .aload_n 0, 0, 0, 0, 0, 0, 0), (942, .iload_n 3, 0, 0, 0, 0, 0, 0), (943, .iconst 4, 0, 0, 0, 0, 4, 0), (944, .iadd, 0, 0, 0, 0, 0, 0), (945, .iaload, 0, 0, 0, 0, 0, 0), (946, .aload_n 0, 0, 0, 0, 0, 0, 0), (947, .iload_n 3, 0, 0, 0, 0, 0, 0), (948, .iconst 5, 0, 0, 0, 0, 5, 0), (949, .iadd, 0, 0, 0, 0, 0, 0), (950, .iaload, 0, 0, 0, 0, 0, 0), (951, .invokevirtual 115, 113, 6, 10, 847, 0, 0), (954, .if_icmp .eq 75, 1029, 0, 0, 0, 0, 0), (957, .iconst 0, 0, 0, 0, 0, 0, 0), (958, .ireturn, 0, 0, 0, 0, 0, 0), (959, .aload_n 1, 0, 0, 0, 0, 0, 0), (960, .aload_n 0, 0, 0, 0, 0, 0, 0), (961, .iload_n 3, 0, 0, 0, 0, 0, 0), (962, .iconst 1, 0, 0, 0, 0, 1, 0), (963, .iadd, 0, 0, 0, 0, 0, 0), (964, .iaload, 0, 0, 0, 0, 0, 0), (965, .aload_n 0, 0, 0, 0, 0, 0, 0), (966, .iload_n 3, 0, 0, 0, 0, 0, 0), (967, .iconst 2, 0, 0, 0, 0, 2, 0), (968, .iadd, 0, 0, 0, 0, 0, 0), (969, .iaload, 0, 0, 0, 0, 0, 0), (970, .invokevirtual 116, 88, 3, 9, 707, 0, 0), (973, .aload_n 2, 0, 0, 0, 0, 0, 0), (974, .aload_n 0, 0, 0, 0, 0, 0, 0), (975, .iload_n 3, 0, 0, 0, 0, 0, 0), (976, .iconst 1, 0, 0, 0, 0, 1, 0), (977, .iadd, 0, 0, 0, 0, 0, 0), (978, .iaload, 0, 0, 0, 0, 0, 0), (979, .aload_n 0, 0, 0, 0, 0, 0, 0), (980, .iload_n 3, 0, 0, 0, 0, 0, 0), (981, .iconst 2, 0, 0, 0, 0, 2, 0), (982, .iadd, 0, 0, 0, 0, 0, 0), (983, .iaload, 0, 0, 0, 0, 0, 0), (984, .invokevirtual 119, 160, 3, 10, 1061, 0, 0), (987, .if_icmp .eq 42, 1029, 0, 0, 0, 0, 0), (990, .iconst 0, 0, 0, 0, 0, 0, 0), (991, .ireturn, 0, 0, 0, 0, 0, 0), (992, .aload_n 1, 0, 0, 0, 0, 0, 0), (993, .aload_n 0, 0, 0, 0, 0, 0, 0), (994, .iload_n 3, 0, 0, 0, 0, 0, 0), (995, .iconst 1, 0, 0, 0, 0, 1, 0), (996, .iadd, 0, 0, 0, 0, 0, 0), (997, .iaload, 0, 0, 0, 0, 0, 0), (998, .invokevirtual 120, 89, 2, 9, 711, 0, 0), (1001, .aload_n 2, 0, 0, 0, 0, 0, 0), (1002, .aload_n 0, 0, 0, 0, 0, 0, 0), (1003, .iload_n 3, 0, 0, 0, 0, 0, 0), (1004, .iconst 1, 0, 0, 0, 0, 1, 0), (1005, .iadd, 0, 0, 0, 0, 0, 0), (1006, .iaload, 0, 0, 0, 0, 0, 0), (1007, .invokevirtual 123, 161, 2, 10, 1065, 0, 0), (1010, .if_icmp .eq 19, 1029, 0, 0, 0, 0, 0), (1013, .iconst 0, 0, 0, 0, 0, 0, 0), (1014, .ireturn, 0, 0, 0, 0, 0, 0), (1015, .aload_n 1, 0, 0, 0, 0, 0, 0), (1016, .invokevirtual 124, 90, 1, 9, 717, 0, 0), (1019, .aload_n 2, 0, 0, 0, 0, 0, 0), (1020, .invokevirtual 128, 162, 1, 10, 1069, 0, 0), (1023, .lcmp, 0, 0, 0, 0, 0, 0), (1024, .ifCond .eq 5, 1029, 0, 0, 0, 0, 0), (1027, .iconst 0, 0, 0, 0, 0, 0, 0), (1028, .ireturn, 0, 0, 0, 0, 0, 0), (1029, .iinc 3 6, 0, 0, 0, 0, 6, 0), (1032, .goto (-1014), 18, 0, 0, 0, 0, 0), (1035, .iconst 1, 0, 0, 0, 0, 1, 0), (1036, .ireturn, 0, 0, 0, 0, 0, 0)]
def pm_sig : List pm_S := [
  (yX0_forget, cX0_forget, 1, none, 0, 0, 1, false, 380, 52, 378, 379),
  (yX0_answer, cX0_answer, 3, (some .int), 3, 78, 3, false, 565, 52, 563, 564),
  (yX0_countAll, cX0_countAll, 7, none, 2, 52, 2, false, 572, 52, 571, 13),
  (yX0_take, cX0_take, 6, none, 1, 27, 3, false, 577, 52, 576, 14),
  (yX1_length, cX1_length, 1, (some .int), 0, 0, 1, false, 292, 48, 290, 291),
  (yX1_size, cX1_size, 1, (some .int), 0, 0, 1, false, 348, 48, 346, 347),
  (yX1_allBits, cX1_allBits, 1, (some .int), 0, 0, 1, false, 436, 48, 434, 435),
  (yX1_wantedBits, cX1_wantedBits, 1, (some .int), 0, 0, 1, false, 467, 48, 465, 466),
  (yX1_faultPlace, cX1_faultPlace, 1, (some .int), 0, 0, 1, false, 336, 48, 334, 335),
  (yX1_priceOf, cX1_priceOf, 2, (some .int), 0, 0, 2, false, 352, 48, 350, 351),
  (yX1_isWanted, cX1_isWanted, 2, (some .boolean), 0, 0, 2, false, 356, 48, 354, 355),
  (yX1_append, cX1_append, 2, none, 4, 90, 2, false, 296, 48, 294, 295),
  (yX1_clear, cX1_clear, 1, none, 4, 90, 1, false, 328, 48, 326, 327),
  (yX1_understand, cX1_understand, 1, none, 3, 70, 1, false, 300, 48, 299, 0),
  (yX1_understandGoods, cX1_understandGoods, 6, (some .int), 2, 45, 1, false, 304, 48, 303, 1),
  (yX1_endOfFigures, cX1_endOfFigures, 3, (some .int), 1, 21, 2, false, 308, 48, 307, 2),
  (yX1_numberBetween, cX1_numberBetween, 5, (some .int), 1, 21, 3, false, 316, 48, 315, 4),
  (yX1_byteAt, cX1_byteAt, 2, (some .int), 0, 0, 2, false, 312, 48, 311, 3),
  (yX2_valueOf, cX2_valueOf, 2, (some .int), 0, 0, 2, false, 372, 47, 370, 371),
  (yX2_change, cX2_change, 3, none, 0, 0, 3, false, 376, 47, 374, 375),
  (yX2_paidFor, cX2_paidFor, 8, (some .int), 0, 0, 2, false, 428, 47, 426, 427),
  (yX2_splitUp, cX2_splitUp, 6, (some .int), 0, 0, 3, false, 624, 47, 622, 623),
  (yX3_part, cX3_part, 6, (some .int), 1, 27, 4, false, 589, 53, 587, 588),
  (yX3_bestOfTwo, cX3_bestOfTwo, 6, (some .int), 0, 0, 3, false, 594, 53, 593, 15),
  (yX4_ownerOf, cX4_ownerOf, 2, (some .int), 0, 0, 2, false, 360, 50, 358, 359),
  (yX4_give, cX4_give, 3, none, 0, 0, 3, false, 391, 50, 389, 390),
  (yX4_broughtInAllOrders, cX4_broughtInAllOrders, 7, (some .long), 2, 50, 2, false, 603, 50, 601, 602),
  (yX4_commonWithOrders, cX4_commonWithOrders, 3, (some .int), 0, 0, 1, true, 616, 50, 615, 0),
  (yX4_paidBySet, cX4_paidBySet, 4, (some .int), 1, 27, 2, false, 610, 50, 609, 16),
  (yX5_payOn, cX5_payOn, 4, none, 1, 27, 3, false, 544, 51, 542, 543),
  (yX5_roundsPaid, cX5_roundsPaid, 1, (some .int), 0, 0, 1, false, 549, 51, 547, 548),
  (yX5_contents, cX5_contents, 1, (some .int), 0, 0, 1, false, 553, 51, 551, 552),
  (yX5_firstReturn, cX5_firstReturn, 3, (some .int), 0, 0, 1, false, 557, 51, 555, 556),
  (yX6_isLost, cX6_isLost, 1, (some .boolean), 0, 0, 1, false, 402, 55, 400, 401),
  (yX6_isLike, cX6_isLike, 2, (some .boolean), 0, 0, 2, false, 695, 55, 693, 694),
  (yX6_size, cX6_size, 1, (some .int), 0, 0, 1, false, 410, 55, 408, 409),
  (yX6_itemAt, cX6_itemAt, 2, (some .int), 0, 0, 2, false, 417, 55, 415, 416),
  (yX6_renew, cX6_renew, 3, none, 1, 23, 3, false, 659, 55, 657, 658),
  (yX6_giveUp, cX6_giveUp, 1, none, 0, 0, 1, false, 668, 55, 666, 667),
  (yX6_put, cX6_put, 3, none, 0, 0, 3, false, 682, 55, 680, 681),
  (yX6_findingAt, cX6_findingAt, 3, (some .int), 1, 22, 3, false, 676, 55, 674, 675),
  (yX6_hasRun, cX6_hasRun, 3, (some .boolean), 0, 0, 3, false, 699, 55, 697, 698),
  (yX6_takeRun, cX6_takeRun, 5, none, 1, 26, 5, false, 703, 55, 701, 702),
  (yX6_fits, cX6_fits, 4, (some .boolean), 0, 0, 3, false, 628, 55, 626, 627),
  (yX7_forget, cX7_forget, 1, none, 0, 0, 1, false, 320, 49, 318, 319),
  (yX7_sumOf, cX7_sumOf, 2, (some .int), 2, 50, 2, false, 440, 49, 438, 439),
  (yX7_paidOf, cX7_paidOf, 2, (some .int), 2, 50, 2, false, 451, 49, 449, 450),
  (yX7_gainOf, cX7_gainOf, 2, (some .int), 3, 71, 2, false, 522, 49, 520, 521),
  (yX7_leastPaid, cX7_leastPaid, 1, (some .int), 4, 96, 1, false, 459, 49, 457, 458),
  (yX7_leastBills, cX7_leastBills, 1, (some .int), 4, 96, 1, false, 496, 49, 494, 495),
  (yX7_leastBits, cX7_leastBits, 1, (some .int), 4, 96, 1, false, 500, 49, 498, 499),
  (yX7_mostPaid, cX7_mostPaid, 1, (some .int), 4, 96, 1, false, 504, 49, 502, 503),
  (yX7_greatestGain, cX7_greatestGain, 4, (some .int), 2, 50, 2, false, 518, 49, 516, 517),
  (yX7_leastRaise, cX7_leastRaise, 5, (some .int), 2, 53, 3, false, 532, 49, 530, 531),
  (yX7_isProof, cX7_isProof, 7, (some .boolean), 1, 27, 5, false, 536, 49, 535, 12),
  (yX7_reckonBills, cX7_reckonBills, 4, none, 1, 27, 1, false, 444, 49, 443, 7),
  (yX7_reckonBought, cX7_reckonBought, 2, none, 3, 75, 1, false, 463, 49, 462, 8),
  (yX7_takeBest, cX7_takeBest, 4, none, 1, 26, 2, false, 474, 49, 473, 9),
  (yX7_partOnceMore, cX7_partOnceMore, 3, none, 2, 53, 2, false, 487, 49, 486, 10),
  (yX7_partSet, cX7_partSet, 8, none, 1, 26, 3, false, 491, 49, 490, 11),
  (yX8_playDownTo, cX8_playDownTo, 5, none, 1, 27, 4, false, 636, 54, 634, 635),
  (yX8_outcomeFrom, cX8_outcomeFrom, 2, (some .int), 0, 0, 2, false, 644, 54, 642, 643),
  (yX8_firstAmount, cX8_firstAmount, 3, (some .int), 1, 27, 3, false, 648, 54, 646, 647),
  (yX8_bestAmount, cX8_bestAmount, 8, (some .int), 0, 0, 4, true, 640, 54, 639, 0),
  (yX9_type, cX9_type, 2, (some .int), 5, 111, 2, false, 285, 46, 283, 284),
  (yX9_wipe, cX9_wipe, 2, (some .int), 5, 110, 1, false, 324, 46, 322, 323),
  (yX9_fault, cX9_fault, 1, (some .int), 1, 20, 1, false, 332, 46, 330, 331),
  (yX9_good, cX9_good, 3, (some .int), 2, 43, 3, false, 340, 46, 338, 339),
  (yX9_set, cX9_set, 4, (some .int), 1, 22, 3, false, 364, 46, 362, 363),
  (yX9_partner, cX9_partner, 4, (some .int), 2, 42, 3, false, 384, 46, 382, 383),
  (yX9_read, cX9_read, 5, (some .int), 2, 42, 2, false, 395, 46, 393, 394),
  (yX9_paid, cX9_paid, 2, (some .int), 2, 42, 2, false, 421, 46, 419, 420),
  (yX9_bill, cX9_bill, 3, (some .int), 3, 71, 3, false, 432, 46, 430, 431),
  (yX9_bought, cX9_bought, 2, (some .int), 5, 116, 2, false, 455, 46, 453, 454),
  (yX9_added, cX9_added, 6, (some .int), 2, 42, 2, false, 508, 46, 506, 507),
  (yX9_proof, cX9_proof, 4, (some .int), 4, 92, 3, false, 512, 46, 510, 511),
  (yX9_raised, cX9_raised, 3, (some .int), 3, 77, 3, false, 528, 46, 526, 527),
  (yX9_rounds, cX9_rounds, 4, (some .int), 2, 50, 4, false, 540, 46, 538, 539),
  (yX9_figures, cX9_figures, 3, (some .int), 4, 100, 3, false, 561, 46, 559, 560),
  (yX9_rent, cX9_rent, 4, (some .int), 2, 52, 4, false, 585, 46, 583, 584),
  (yX9_share, cX9_share, 6, (some .long), 3, 76, 3, false, 598, 46, 596, 597),
  (yX9_smudged, cX9_smudged, 7, (some .int), 3, 71, 3, false, 620, 46, 618, 619),
  (yX9_game, cX9_game, 6, (some .int), 2, 51, 5, false, 632, 46, 630, 631),
  (yX9_sheet, cX9_sheet, 4, (some .int), 2, 45, 4, false, 652, 46, 650, 651),
  (yX9_lose, cX9_lose, 3, (some .int), 2, 42, 2, false, 664, 46, 662, 663),
  (yX9_lay, cX9_lay, 6, (some .int), 2, 44, 5, false, 672, 46, 670, 671),
  (yX9_get, cX9_get, 5, (some .int), 2, 44, 4, false, 686, 46, 684, 685),
  (yX9_copy, cX9_copy, 8, (some .int), 2, 50, 6, false, 691, 46, 689, 690),
  (yX9_write, cX9_write, 7, (some .int), 2, 42, 3, false, 710, 46, 708, 709),
  (yX9_count, cX9_count, 2, (some .int), 3, 71, 2, false, 714, 46, 712, 713),
  (yX9_digest, cX9_digest, 4, (some .long), 6, 148, 1, false, 720, 46, 718, 719),
  (yX9_goodsInto, cX9_goodsInto, 7, (some .long), 4, 99, 2, false, 728, 46, 727, 17),
  (yX9_figuresInto, cX9_figuresInto, 7, (some .long), 5, 122, 2, false, 739, 46, 738, 18),
  (yX9_finding, cX9_finding, 2, (some .int), 0, 0, 2, false, 406, 46, 405, 6),
  (yX9_isGood, cX9_isGood, 2, (some .boolean), 1, 22, 2, false, 344, 46, 343, 5),
  (yX9_isPartner, cX9_isPartner, 1, (some .boolean), 1, 22, 1, true, 387, 46, 386, 0),
  (yX9_isNumber, cX9_isNumber, 1, (some .boolean), 1, 22, 1, true, 424, 46, 423, 0),
  (yX9_isSheet, cX9_isSheet, 1, (some .boolean), 1, 22, 1, true, 398, 46, 397, 0),
  (yX9_isForm, cX9_isForm, 1, (some .boolean), 1, 22, 1, true, 655, 46, 654, 0),
  (yX9_within, cX9_within, 3, (some .boolean), 0, 0, 3, true, 288, 46, 287, 0),
  (yX10_in, cX10_in, 6, (some .boolean), 0, 0, 3, true, 821, 56, 820, 0),
  (yX10_no, cX10_no, 1, (some .long), 0, 0, 1, true, 1037, 56, 1036, 0),
  (yX10_isTwo, cX10_isTwo, 1, (some .boolean), 1, 25, 1, true, 933, 56, 932, 0),
  (yX10_isIn, cX10_isIn, 2, (some .boolean), 0, 0, 2, true, 940, 56, 939, 0),
  (yX10_ones, cX10_ones, 3, (some .int), 0, 0, 1, true, 973, 56, 972, 0),
  (yX10_met, cX10_met, 2, (some .int), 0, 0, 2, false, 826, 56, 825, 19),
  (yX10_isSheet, cX10_isSheet, 1, (some .boolean), 1, 25, 1, true, 817, 56, 816, 0),
  (yX10_sheet, cX10_sheet, 5, (some .int), 2, 45, 4, false, 814, 56, 812, 813),
  (yX10_lose, cX10_lose, 2, (some .int), 2, 45, 2, false, 830, 56, 828, 829),
  (yX10_lacks, cX10_lacks, 4, (some .int), 1, 25, 4, false, 838, 56, 837, 20),
  (yX10_cut, cX10_cut, 2, (some .int), 0, 0, 2, true, 841, 56, 840, 0),
  (yX10_lay, cX10_lay, 6, (some .int), 2, 48, 5, false, 834, 56, 832, 833),
  (yX10_get, cX10_get, 4, (some .int), 2, 48, 4, false, 845, 56, 843, 844),
  (yX10_copy, cX10_copy, 7, (some .int), 2, 45, 6, false, 850, 56, 848, 849),
  (yX10_type, cX10_type, 2, (some .int), 1, 25, 2, false, 854, 56, 852, 853),
  (yX10_wipe, cX10_wipe, 2, (some .int), 0, 0, 1, false, 859, 56, 857, 858),
  (yX10_here, cX10_here, 1, (some .int), 0, 0, 1, false, 875, 56, 874, 23),
  (yX10_none, cX10_none, 1, (some .int), 0, 0, 1, false, 881, 56, 880, 24),
  (yX10_readsPart, cX10_readsPart, 3, (some .boolean), 1, 25, 1, false, 871, 56, 870, 22),
  (yX10_reads, cX10_reads, 2, (some .int), 2, 47, 1, false, 867, 56, 866, 21),
  (yX10_fault, cX10_fault, 1, (some .int), 3, 68, 1, false, 863, 56, 861, 862),
  (yX10_isGood, cX10_isGood, 2, (some .boolean), 3, 68, 2, false, 889, 56, 888, 25),
  (yX10_goodOf, cX10_goodOf, 3, (some .int), 0, 0, 3, false, 893, 56, 892, 26),
  (yX10_good, cX10_good, 3, (some .int), 4, 89, 3, false, 885, 56, 883, 884),
  (yX10_set, cX10_set, 6, (some .int), 1, 25, 3, false, 897, 56, 895, 896),
  (yX10_isPartner, cX10_isPartner, 1, (some .boolean), 1, 25, 1, true, 905, 56, 904, 0),
  (yX10_partner, cX10_partner, 4, (some .int), 2, 45, 3, false, 901, 56, 899, 900),
  (yX10_read, cX10_read, 3, (some .int), 3, 68, 2, false, 909, 56, 907, 908),
  (yX10_paidFor, cX10_paidFor, 6, (some .int), 0, 0, 2, false, 922, 56, 921, 27),
  (yX10_isNumber, cX10_isNumber, 1, (some .boolean), 1, 25, 1, true, 917, 56, 916, 0),
  (yX10_paid, cX10_paid, 2, (some .int), 2, 45, 2, false, 914, 56, 912, 913),
  (yX10_sumOf, cX10_sumOf, 4, (some .int), 1, 21, 2, false, 937, 56, 936, 29),
  (yX10_whole, cX10_whole, 1, (some .int), 0, 0, 1, false, 930, 56, 929, 28),
  (yX10_bill, cX10_bill, 3, (some .int), 3, 68, 3, false, 926, 56, 924, 925),
  (yX10_findBills, cX10_findBills, 7, none, 2, 44, 1, false, 952, 56, 951, 31),
  (yX10_boughtOf, cX10_boughtOf, 10, (some .int), 3, 70, 2, false, 948, 56, 947, 30),
  (yX10_bought, cX10_bought, 2, (some .int), 4, 99, 2, false, 944, 56, 942, 943),
  (yX10_addedTo, cX10_addedTo, 4, (some .int), 1, 25, 2, false, 961, 56, 960, 32),
  (yX10_added, cX10_added, 2, (some .int), 2, 48, 2, false, 957, 56, 955, 956),
  (yX10_gainBy, cX10_gainBy, 2, (some .int), 2, 44, 2, false, 977, 56, 976, 34),
  (yX10_proofOf, cX10_proofOf, 5, (some .int), 3, 65, 3, false, 970, 56, 969, 33),
  (yX10_proof, cX10_proof, 3, (some .int), 4, 89, 3, false, 965, 56, 963, 964),
  (yX10_isProof, cX10_isProof, 4, (some .boolean), 3, 65, 2, false, 992, 56, 991, 36),
  (yX10_raisedOf, cX10_raisedOf, 6, (some .int), 4, 88, 3, false, 988, 56, 987, 35),
  (yX10_raised, cX10_raised, 3, (some .int), 5, 113, 3, false, 983, 56, 981, 982),
  (yX10_roundsOf, cX10_roundsOf, 9, (some .int), 1, 25, 4, false, 1000, 56, 999, 37),
  (yX10_rounds, cX10_rounds, 4, (some .int), 2, 53, 4, false, 996, 56, 994, 995),
  (yX10_figuresOf, cX10_figuresOf, 12, (some .int), 1, 25, 3, false, 1008, 56, 1007, 38),
  (yX10_figures, cX10_figures, 3, (some .int), 2, 56, 3, false, 1004, 56, 1002, 1003),
  (yX10_rentOf, cX10_rentOf, 9, (some .int), 1, 25, 4, false, 1018, 56, 1017, 39),
  (yX10_rent, cX10_rent, 4, (some .int), 2, 53, 4, false, 1012, 56, 1010, 1011),
  (yX10_worth, cX10_worth, 4, (some .int), 1, 25, 2, false, 1030, 56, 1029, 41),
  (yX10_part, cX10_part, 11, (some .long), 0, 0, 3, true, 1034, 56, 1033, 0),
  (yX10_shareOf, cX10_shareOf, 8, (some .long), 2, 48, 3, false, 1026, 56, 1025, 40),
  (yX10_share, cX10_share, 3, (some .long), 3, 75, 3, false, 1022, 56, 1020, 1021),
  (yX10_fits, cX10_fits, 6, (some .boolean), 0, 0, 3, false, 1046, 56, 1045, 42),
  (yX10_smudged, cX10_smudged, 7, (some .int), 3, 68, 3, false, 1042, 56, 1040, 1041),
  (yX10_value, cX10_value, 4, (some .int), 1, 25, 4, false, 1060, 56, 1059, 44),
  (yX10_gameOf, cX10_gameOf, 13, (some .int), 2, 48, 5, false, 1056, 56, 1055, 43),
  (yX10_game, cX10_game, 6, (some .int), 3, 80, 5, false, 1050, 56, 1048, 1049),
  (yX10_write, cX10_write, 7, (some .int), 2, 45, 3, false, 1064, 56, 1062, 1063),
  (yX10_count, cX10_count, 2, (some .int), 3, 68, 2, false, 1068, 56, 1066, 1067),
  (yX10_digest, cX10_digest, 5, (some .long), 5, 113, 1, false, 1072, 56, 1070, 1071),
  (yJ6_bitCount_0f7a4, cJ6_bitCount_0f7a4, 1, (some .int), 0, 0, 1, true, 477, 58, 476, 0),
  (yJ7_fill_53178, cJ7_fill_53178, 4, none, 0, 0, 2, true, 568, 59, 567, 0),
  (yL_law, cL_law, 4, (some .boolean), 7, 171, 1, true, 0, 45, 0, 0)]
def pm_cod : List (List pm_R) := [cd_X0_forget, cd_X0_answer, cd_X0_countAll, cd_X0_take, cd_X1_length, cd_X1_size, cd_X1_allBits, cd_X1_wantedBits, cd_X1_faultPlace, cd_X1_priceOf, cd_X1_isWanted, cd_X1_append, cd_X1_clear, cd_X1_understand, cd_X1_understandGoods, cd_X1_endOfFigures, cd_X1_numberBetween, cd_X1_byteAt, cd_X2_valueOf, cd_X2_change, cd_X2_paidFor, cd_X2_splitUp, cd_X3_part, cd_X3_bestOfTwo, cd_X4_ownerOf, cd_X4_give, cd_X4_broughtInAllOrders, cd_X4_commonWithOrders, cd_X4_paidBySet, cd_X5_payOn, cd_X5_roundsPaid, cd_X5_contents, cd_X5_firstReturn, cd_X6_isLost, cd_X6_isLike, cd_X6_size, cd_X6_itemAt, cd_X6_renew, cd_X6_giveUp, cd_X6_put, cd_X6_findingAt, cd_X6_hasRun, cd_X6_takeRun, cd_X6_fits, cd_X7_forget, cd_X7_sumOf, cd_X7_paidOf, cd_X7_gainOf, cd_X7_leastPaid, cd_X7_leastBills, cd_X7_leastBits, cd_X7_mostPaid, cd_X7_greatestGain, cd_X7_leastRaise, cd_X7_isProof, cd_X7_reckonBills, cd_X7_reckonBought, cd_X7_takeBest, cd_X7_partOnceMore, cd_X7_partSet, cd_X8_playDownTo, cd_X8_outcomeFrom, cd_X8_firstAmount, cd_X8_bestAmount, cd_X9_type, cd_X9_wipe, cd_X9_fault, cd_X9_good, cd_X9_set, cd_X9_partner, cd_X9_read, cd_X9_paid, cd_X9_bill, cd_X9_bought, cd_X9_added, cd_X9_proof, cd_X9_raised, cd_X9_rounds, cd_X9_figures, cd_X9_rent, cd_X9_share, cd_X9_smudged, cd_X9_game, cd_X9_sheet, cd_X9_lose, cd_X9_lay, cd_X9_get, cd_X9_copy, cd_X9_write, cd_X9_count, cd_X9_digest, cd_X9_goodsInto, cd_X9_figuresInto, cd_X9_finding, cd_X9_isGood, cd_X9_isPartner, cd_X9_isNumber, cd_X9_isSheet, cd_X9_isForm, cd_X9_within, cd_X10_in, cd_X10_no, cd_X10_isTwo, cd_X10_isIn, cd_X10_ones, cd_X10_met, cd_X10_isSheet, cd_X10_sheet, cd_X10_lose, cd_X10_lacks, cd_X10_cut, cd_X10_lay, cd_X10_get, cd_X10_copy, cd_X10_type, cd_X10_wipe, cd_X10_here, cd_X10_none, cd_X10_readsPart, cd_X10_reads, cd_X10_fault, cd_X10_isGood, cd_X10_goodOf, cd_X10_good, cd_X10_set, cd_X10_isPartner, cd_X10_partner, cd_X10_read, cd_X10_paidFor, cd_X10_isNumber, cd_X10_paid, cd_X10_sumOf, cd_X10_whole, cd_X10_bill, cd_X10_findBills, cd_X10_boughtOf, cd_X10_bought, cd_X10_addedTo, cd_X10_added, cd_X10_gainBy, cd_X10_proofOf, cd_X10_proof, cd_X10_isProof, cd_X10_raisedOf, cd_X10_raised, cd_X10_roundsOf, cd_X10_rounds, cd_X10_figuresOf, cd_X10_figures, cd_X10_rentOf, cd_X10_rent, cd_X10_worth, cd_X10_part, cd_X10_shareOf, cd_X10_share, cd_X10_fits, cd_X10_smudged, cd_X10_value, cd_X10_gameOf, cd_X10_game, cd_X10_write, cd_X10_count, cd_X10_digest, cd_J6_bitCount_0f7a4, cd_J7_fill_53178, cd_L_law]
abbrev m_X0_forget : Nat := 0
abbrev m_X0_answer : Nat := 1
abbrev m_X0_countAll : Nat := 2
abbrev m_X0_take : Nat := 3
abbrev m_X1_length : Nat := 4
abbrev m_X1_size : Nat := 5
abbrev m_X1_allBits : Nat := 6
abbrev m_X1_wantedBits : Nat := 7
abbrev m_X1_faultPlace : Nat := 8
abbrev m_X1_priceOf : Nat := 9
abbrev m_X1_isWanted : Nat := 10
abbrev m_X1_append : Nat := 11
abbrev m_X1_clear : Nat := 12
abbrev m_X1_understand : Nat := 13
abbrev m_X1_understandGoods : Nat := 14
abbrev m_X1_endOfFigures : Nat := 15
abbrev m_X1_numberBetween : Nat := 16
abbrev m_X1_byteAt : Nat := 17
abbrev m_X2_valueOf : Nat := 18
abbrev m_X2_change : Nat := 19
abbrev m_X2_paidFor : Nat := 20
abbrev m_X2_splitUp : Nat := 21
abbrev m_X3_part : Nat := 22
abbrev m_X3_bestOfTwo : Nat := 23
abbrev m_X4_ownerOf : Nat := 24
abbrev m_X4_give : Nat := 25
abbrev m_X4_broughtInAllOrders : Nat := 26
abbrev m_X4_commonWithOrders : Nat := 27
abbrev m_X4_paidBySet : Nat := 28
abbrev m_X5_payOn : Nat := 29
abbrev m_X5_roundsPaid : Nat := 30
abbrev m_X5_contents : Nat := 31
abbrev m_X5_firstReturn : Nat := 32
abbrev m_X6_isLost : Nat := 33
abbrev m_X6_isLike : Nat := 34
abbrev m_X6_size : Nat := 35
abbrev m_X6_itemAt : Nat := 36
abbrev m_X6_renew : Nat := 37
abbrev m_X6_giveUp : Nat := 38
abbrev m_X6_put : Nat := 39
abbrev m_X6_findingAt : Nat := 40
abbrev m_X6_hasRun : Nat := 41
abbrev m_X6_takeRun : Nat := 42
abbrev m_X6_fits : Nat := 43
abbrev m_X7_forget : Nat := 44
abbrev m_X7_sumOf : Nat := 45
abbrev m_X7_paidOf : Nat := 46
abbrev m_X7_gainOf : Nat := 47
abbrev m_X7_leastPaid : Nat := 48
abbrev m_X7_leastBills : Nat := 49
abbrev m_X7_leastBits : Nat := 50
abbrev m_X7_mostPaid : Nat := 51
abbrev m_X7_greatestGain : Nat := 52
abbrev m_X7_leastRaise : Nat := 53
abbrev m_X7_isProof : Nat := 54
abbrev m_X7_reckonBills : Nat := 55
abbrev m_X7_reckonBought : Nat := 56
abbrev m_X7_takeBest : Nat := 57
abbrev m_X7_partOnceMore : Nat := 58
abbrev m_X7_partSet : Nat := 59
abbrev m_X8_playDownTo : Nat := 60
abbrev m_X8_outcomeFrom : Nat := 61
abbrev m_X8_firstAmount : Nat := 62
abbrev m_X8_bestAmount : Nat := 63
abbrev m_X9_type : Nat := 64
abbrev m_X9_wipe : Nat := 65
abbrev m_X9_fault : Nat := 66
abbrev m_X9_good : Nat := 67
abbrev m_X9_set : Nat := 68
abbrev m_X9_partner : Nat := 69
abbrev m_X9_read : Nat := 70
abbrev m_X9_paid : Nat := 71
abbrev m_X9_bill : Nat := 72
abbrev m_X9_bought : Nat := 73
abbrev m_X9_added : Nat := 74
abbrev m_X9_proof : Nat := 75
abbrev m_X9_raised : Nat := 76
abbrev m_X9_rounds : Nat := 77
abbrev m_X9_figures : Nat := 78
abbrev m_X9_rent : Nat := 79
abbrev m_X9_share : Nat := 80
abbrev m_X9_smudged : Nat := 81
abbrev m_X9_game : Nat := 82
abbrev m_X9_sheet : Nat := 83
abbrev m_X9_lose : Nat := 84
abbrev m_X9_lay : Nat := 85
abbrev m_X9_get : Nat := 86
abbrev m_X9_copy : Nat := 87
abbrev m_X9_write : Nat := 88
abbrev m_X9_count : Nat := 89
abbrev m_X9_digest : Nat := 90
abbrev m_X9_goodsInto : Nat := 91
abbrev m_X9_figuresInto : Nat := 92
abbrev m_X9_finding : Nat := 93
abbrev m_X9_isGood : Nat := 94
abbrev m_X9_isPartner : Nat := 95
abbrev m_X9_isNumber : Nat := 96
abbrev m_X9_isSheet : Nat := 97
abbrev m_X9_isForm : Nat := 98
abbrev m_X9_within : Nat := 99
abbrev m_X10_in : Nat := 100
abbrev m_X10_no : Nat := 101
abbrev m_X10_isTwo : Nat := 102
abbrev m_X10_isIn : Nat := 103
abbrev m_X10_ones : Nat := 104
abbrev m_X10_met : Nat := 105
abbrev m_X10_isSheet : Nat := 106
abbrev m_X10_sheet : Nat := 107
abbrev m_X10_lose : Nat := 108
abbrev m_X10_lacks : Nat := 109
abbrev m_X10_cut : Nat := 110
abbrev m_X10_lay : Nat := 111
abbrev m_X10_get : Nat := 112
abbrev m_X10_copy : Nat := 113
abbrev m_X10_type : Nat := 114
abbrev m_X10_wipe : Nat := 115
abbrev m_X10_here : Nat := 116
abbrev m_X10_none : Nat := 117
abbrev m_X10_readsPart : Nat := 118
abbrev m_X10_reads : Nat := 119
abbrev m_X10_fault : Nat := 120
abbrev m_X10_isGood : Nat := 121
abbrev m_X10_goodOf : Nat := 122
abbrev m_X10_good : Nat := 123
abbrev m_X10_set : Nat := 124
abbrev m_X10_isPartner : Nat := 125
abbrev m_X10_partner : Nat := 126
abbrev m_X10_read : Nat := 127
abbrev m_X10_paidFor : Nat := 128
abbrev m_X10_isNumber : Nat := 129
abbrev m_X10_paid : Nat := 130
abbrev m_X10_sumOf : Nat := 131
abbrev m_X10_whole : Nat := 132
abbrev m_X10_bill : Nat := 133
abbrev m_X10_findBills : Nat := 134
abbrev m_X10_boughtOf : Nat := 135
abbrev m_X10_bought : Nat := 136
abbrev m_X10_addedTo : Nat := 137
abbrev m_X10_added : Nat := 138
abbrev m_X10_gainBy : Nat := 139
abbrev m_X10_proofOf : Nat := 140
abbrev m_X10_proof : Nat := 141
abbrev m_X10_isProof : Nat := 142
abbrev m_X10_raisedOf : Nat := 143
abbrev m_X10_raised : Nat := 144
abbrev m_X10_roundsOf : Nat := 145
abbrev m_X10_rounds : Nat := 146
abbrev m_X10_figuresOf : Nat := 147
abbrev m_X10_figures : Nat := 148
abbrev m_X10_rentOf : Nat := 149
abbrev m_X10_rent : Nat := 150
abbrev m_X10_worth : Nat := 151
abbrev m_X10_part : Nat := 152
abbrev m_X10_shareOf : Nat := 153
abbrev m_X10_share : Nat := 154
abbrev m_X10_fits : Nat := 155
abbrev m_X10_smudged : Nat := 156
abbrev m_X10_value : Nat := 157
abbrev m_X10_gameOf : Nat := 158
abbrev m_X10_game : Nat := 159
abbrev m_X10_write : Nat := 160
abbrev m_X10_count : Nat := 161
abbrev m_X10_digest : Nat := 162
abbrev m_J6_bitCount_0f7a4 : Nat := 163
abbrev m_J7_fill_53178 : Nat := 164
abbrev m_L_law : Nat := 165
end
section
/-! A PURE MACHINE: one method's frame as lists of values, references as numbers of cells (tags) in a fixed layout, the cells' numbers as a function. -/
abbrev pm_RO : Type := Nat → Option (Nat × (Nat → Int32))
def pm_v (adr : Nat → Nat) : Value → Value
  | .ref t => .ref (adr t)
  | v => v
def pm_isL : Option Value → Bool
  | some (.long _) => true
  | some (.double _) => true
  | _ => false
def pm_clr (ls : List Value) : Nat → List Value
  | 0 => ls
  | i + 1 => bif pm_isL ls[i]? then ls.set i .null else ls
def pm_set (ls : List Value) (i : Nat) (v : Value) : List Value := (pm_clr ls i).set i v
def pm_set2 (ls : List Value) (i : Nat) (v : Value) : List Value := ((pm_clr ls i).set i v).set (i + 1) .null
def pm_up (mem : pm_M) (t k : Nat) (x : Int32) : pm_M := fun q => if q = t then upd (mem t) k x else mem q
def pm_upR (mem : pm_M) (t : Nat) (f : Nat → Int32) : pm_M := fun q => if q = t then f else mem q
def pm_inb (i : Int32) (n : Nat) : Bool := !(decide (i < 0)) && decide (i.toNatClampNeg < n)
def pm_cnd : Jvm.ClassFile.Cond → Int32 → Int32 → Bool
  | .eq, x, y => decide (x = y)
  | .ne, x, y => decide (¬ x = y)
  | .lt, x, y => decide (x < y)
  | .ge, x, y => decide (y ≤ x)
  | .gt, x, y => decide (y < x)
  | .le, x, y => decide (x ≤ y)
def pm_len : Instr → Nat → Nat
  | .iload _, _ => 2
  | .lload _, _ => 2
  | .aload _, _ => 2
  | .istore _, _ => 2
  | .lstore _, _ => 2
  | .astore _, _ => 2
  | .bipush _, _ => 2
  | .ldc _, _ => 2
  | .sipush _, _ => 3
  | .ldc_w _, _ => 3
  | .ldc2_w _, _ => 3
  | .iinc _ _, _ => 3
  | .getfield _, _ => 3
  | .putfield _, _ => 3
  | .getstatic _, _ => 3
  | .goto _, _ => 3
  | .ifCond _ _, _ => 3
  | .if_icmp _ _, _ => 3
  | .invokevirtual _, _ => 3
  | .invokestatic _, _ => 3
  | .tableswitch _ _ _ _, a => a
  | .lookupswitch _ _, a => a
  | _, _ => 1
abbrev pm_O : Type := Option (Nat × List Value × List Value × pm_M)
def pm_ldi (pc : Nat) (ls st : List Value) (mem : pm_M) (i : Nat) : pm_O := match ls[i]? with
  | some (.int x) => some (pc, ls, .int x :: st, mem)
  | _ => none
def pm_ldl (pc : Nat) (ls st : List Value) (mem : pm_M) (i : Nat) : pm_O := match ls[i]? with
  | some (.long x) => some (pc, ls, .long x :: st, mem)
  | _ => none
def pm_lda (pc : Nat) (ls st : List Value) (mem : pm_M) (i : Nat) : pm_O := match ls[i]? with
  | some (.ref x) => some (pc, ls, .ref x :: st, mem)
  | _ => none
def pm_sti (pc : Nat) (ls st : List Value) (mem : pm_M) (i : Nat) : pm_O := match st with
  | .int x :: rest => bif Nat.blt i ls.length then some (pc, pm_set ls i (.int x), rest, mem) else none
  | _ => none
def pm_sta (pc : Nat) (ls st : List Value) (mem : pm_M) (i : Nat) : pm_O := match st with
  | .ref x :: rest => bif Nat.blt i ls.length then some (pc, pm_set ls i (.ref x), rest, mem) else none
  | _ => none
def pm_stl (pc : Nat) (ls st : List Value) (mem : pm_M) (i : Nat) : pm_O := match st with
  | .long x :: rest => bif Nat.blt (i + 1) ls.length then some (pc, pm_set2 ls i (.long x), rest, mem) else none
  | _ => none
def pm_inc (pc : Nat) (ls st : List Value) (mem : pm_M) (i : Nat) (w : Int32) : pm_O := match ls[i]? with
  | some (.int x) => bif Nat.blt i ls.length then some (pc, pm_set ls i (.int (x + w)), st, mem) else none
  | _ => none
def pm_b2 (f : Int32 → Int32 → Int32) (pc : Nat) (ls st : List Value) (mem : pm_M) : pm_O := match st with
  | .int y :: .int x :: rest => some (pc, ls, .int (f x y) :: rest, mem)
  | _ => none
def pm_d2 (f : Int32 → Int32 → Int32) (pc : Nat) (ls st : List Value) (mem : pm_M) : pm_O := match st with
  | .int y :: .int x :: rest => bif !(decide (y = 0)) then some (pc, ls, .int (f x y) :: rest, mem) else none
  | _ => none
def pm_b1 (f : Int32 → Int32) (pc : Nat) (ls st : List Value) (mem : pm_M) : pm_O := match st with
  | .int x :: rest => some (pc, ls, .int (f x) :: rest, mem)
  | _ => none
def pm_l2 (f : Int64 → Int64 → Int64) (pc : Nat) (ls st : List Value) (mem : pm_M) : pm_O := match st with
  | .long y :: .long x :: rest => some (pc, ls, .long (f x y) :: rest, mem)
  | _ => none
def pm_ld2 (f : Int64 → Int64 → Int64) (pc : Nat) (ls st : List Value) (mem : pm_M) : pm_O := match st with
  | .long y :: .long x :: rest => bif !(decide (y = 0)) then some (pc, ls, .long (f x y) :: rest, mem) else none
  | _ => none
def pm_lneg (pc : Nat) (ls st : List Value) (mem : pm_M) : pm_O := match st with
  | .long x :: rest => some (pc, ls, .long (-x) :: rest, mem)
  | _ => none
def pm_i2l (pc : Nat) (ls st : List Value) (mem : pm_M) : pm_O := match st with
  | .int x :: rest => some (pc, ls, .long x.toInt64 :: rest, mem)
  | _ => none
def pm_lcmp (pc : Nat) (ls st : List Value) (mem : pm_M) : pm_O := match st with
  | .long y :: .long x :: rest => some (pc, ls, .int (lg_cmp x y) :: rest, mem)
  | _ => none
def pm_dup (pc : Nat) (ls st : List Value) (mem : pm_M) : pm_O := match st with
  | v :: rest => bif !(pm_isL (some v)) then some (pc, ls, v :: v :: rest, mem) else none
  | _ => none
def pm_pop (pc : Nat) (ls st : List Value) (mem : pm_M) : pm_O := match st with
  | v :: rest => bif !(pm_isL (some v)) then some (pc, ls, rest, mem) else none
  | _ => none
def pm_dup2 (pc : Nat) (ls st : List Value) (mem : pm_M) : pm_O := match st with
  | v :: u :: rest => bif !(pm_isL (some v)) && !(pm_isL (some u)) then some (pc, ls, v :: u :: v :: u :: rest, mem) else none
  | _ => none
def pm_ifc (k : Jvm.ClassFile.Cond) (a pc : Nat) (ls st : List Value) (mem : pm_M) : pm_O := match st with
  | .int x :: rest => some (bif pm_cnd k x 0 then a else pc, ls, rest, mem)
  | _ => none
def pm_icm (k : Jvm.ClassFile.Cond) (a pc : Nat) (ls st : List Value) (mem : pm_M) : pm_O := match st with
  | .int y :: .int x :: rest => some (bif pm_cnd k x y then a else pc, ls, rest, mem)
  | _ => none
def pm_getf (a b pc : Nat) (ls st : List Value) (mem : pm_M) : pm_O := match st with
  | .ref t :: rest => match pm_lay[t]? with
    | some (.inr (.inr (ci, sl))) => bif Nat.beq ci a then (match sl[b]? with
      | some none => some (pc, ls, .int (mem t b) :: rest, mem)
      | some (some q) => some (pc, ls, .ref q :: rest, mem)
      | none => none) else none
    | _ => none
  | _ => none
def pm_putf (a b c pc : Nat) (ls st : List Value) (mem : pm_M) : pm_O := match st with
  | .int x :: .ref t :: rest => match pm_lay[t]? with
    | some (.inr (.inr (ci, sl))) => bif Nat.beq ci a && (Nat.beq c 0 || (Nat.beq c 1 && (decide (x = 0) || decide (x = 1)))) then (match sl[b]? with
      | some none => some (pc, ls, rest, pm_up mem t b x)
      | _ => none) else none
    | _ => none
  | _ => none
def pm_ald (ro : pm_RO) (pc : Nat) (ls st : List Value) (mem : pm_M) : pm_O := match st with
  | .int i :: .ref t :: rest => match pm_lay[t]? with
    | some (.inl n) => bif pm_inb i n then some (pc, ls, .int (mem t i.toNatClampNeg) :: rest, mem) else none
    | some _ => none
    | none => match ro t with
      | some (n, f) => bif pm_inb i n then some (pc, ls, .int (f i.toNatClampNeg) :: rest, mem) else none
      | none => none
  | _ => none
def pm_ast (pc : Nat) (ls st : List Value) (mem : pm_M) : pm_O := match st with
  | .int x :: .int i :: .ref t :: rest => match pm_lay[t]? with
    | some (.inl n) => bif pm_inb i n then some (pc, ls, rest, pm_up mem t i.toNatClampNeg x) else none
    | _ => none
  | _ => none
def pm_aal (pc : Nat) (ls st : List Value) (mem : pm_M) : pm_O := match st with
  | .int i :: .ref t :: rest => match pm_lay[t]? with
    | some (.inr (.inl tags)) => bif pm_inb i tags.length then (match tags[i.toNatClampNeg]? with
      | some q => some (pc, ls, .ref q :: rest, mem)
      | none => none) else none
    | _ => none
  | _ => none
def pm_aln (ro : pm_RO) (pc : Nat) (ls st : List Value) (mem : pm_M) : pm_O := match st with
  | .ref t :: rest => match pm_lay[t]? with
    | some (.inl n) => some (pc, ls, .int (Int32.ofNat n) :: rest, mem)
    | some _ => none
    | none => match ro t with
      | some (n, _) => some (pc, ls, .int (Int32.ofNat n) :: rest, mem)
      | none => none
  | _ => none
def pm_tgt (pc : Nat) (off : Int) (ls st : List Value) (mem : pm_M) : pm_O := bif decide (0 ≤ (pc : Int) + off) then some (((pc : Int) + off).toNat, ls, st, mem) else none
def pm_tsw (pc : Nat) (dflt lo hi : Int) (offs : Array Int) (ls st : List Value) (mem : pm_M) : pm_O := match st with
  | .int x :: rest => bif decide (x.toInt < lo) || decide (hi < x.toInt) then pm_tgt pc dflt ls rest mem else (match offs[(x.toInt - lo).toNat]? with
    | some off => pm_tgt pc off ls rest mem
    | none => none)
  | _ => none
def pm_lsw (pc : Nat) (dflt : Int) (ps : Array (Int × Int)) (ls st : List Value) (mem : pm_M) : pm_O := match st with
  | .int x :: rest => bif (ps.toList.zip (ps.toList.drop 1)).all (fun (a, next) => a.1 < next.1) then pm_tgt pc (Op.lookupswitch.offset ps.toList dflt x.toInt) ls rest mem else none
  | _ => none
/-- System.arraycopy between rows of ints -/
def pm_cpy (pc : Nat) (ls st : List Value) (mem : pm_M) : pm_O := match st with
  | .int n :: .int dp :: .ref t1 :: .int sp :: .ref t0 :: rest => match pm_lay[t0]?, pm_lay[t1]? with
    | some (.inl n0), some (.inl n1) => bif !(decide (sp < 0)) && !(decide (dp < 0)) && !(decide (n < 0)) && decide (sp.toNatClampNeg + n.toNatClampNeg ≤ n0) && decide (dp.toNatClampNeg + n.toNatClampNeg ≤ n1) && decide ((rest.map fun v => v.category).sum ≤ 8) then
        some (pc, ls, rest, pm_upR mem t1 (va_cpy (mem t0) (mem t1) sp.toNatClampNeg dp.toNatClampNeg n.toNatClampNeg)) else none
    | _, _ => none
  | _ => none
/-- an instruction that neither calls nor returns -/
def pm_step (ro : pm_RO) (r : pm_R) (ls st : List Value) (mem : pm_M) : pm_O :=
  match r with
  | (pc, ins, a, b, c, _, w, w2) => match ins with
    | .iconst _ => some (pc + 1, ls, .int w :: st, mem)
    | .bipush _ => some (pc + 2, ls, .int w :: st, mem)
    | .sipush _ => some (pc + 3, ls, .int w :: st, mem)
    | .lconst _ => some (pc + 1, ls, .long w2 :: st, mem)
    | .ldc _ => some (pc + 2, ls, .int w :: st, mem)
    | .ldc_w _ => some (pc + 3, ls, .int w :: st, mem)
    | .ldc2_w _ => some (pc + 3, ls, .long w2 :: st, mem)
    | .iload_n k => pm_ldi (pc + 1) ls st mem k
    | .iload i => pm_ldi (pc + 2) ls st mem i
    | .lload_n k => pm_ldl (pc + 1) ls st mem k
    | .lload i => pm_ldl (pc + 2) ls st mem i
    | .aload_n k => pm_lda (pc + 1) ls st mem k
    | .aload i => pm_lda (pc + 2) ls st mem i
    | .istore_n k => pm_sti (pc + 1) ls st mem k
    | .istore i => pm_sti (pc + 2) ls st mem i
    | .lstore_n k => pm_stl (pc + 1) ls st mem k
    | .lstore i => pm_stl (pc + 2) ls st mem i
    | .astore_n k => pm_sta (pc + 1) ls st mem k
    | .astore i => pm_sta (pc + 2) ls st mem i
    | .iinc i _ => pm_inc (pc + 3) ls st mem i w
    | .iadd => pm_b2 (fun x y => x + y) (pc + 1) ls st mem
    | .isub => pm_b2 (fun x y => x - y) (pc + 1) ls st mem
    | .imul => pm_b2 (fun x y => x * y) (pc + 1) ls st mem
    | .iand => pm_b2 (fun x y => x &&& y) (pc + 1) ls st mem
    | .ior => pm_b2 (fun x y => x ||| y) (pc + 1) ls st mem
    | .ixor => pm_b2 (fun x y => x ^^^ y) (pc + 1) ls st mem
    | .ishl => pm_b2 (fun x y => x <<< (y &&& 31)) (pc + 1) ls st mem
    | .ishr => pm_b2 (fun x y => x >>> (y &&& 31)) (pc + 1) ls st mem
    | .iushr => pm_b2 (fun x y => (x.toUInt32 >>> (y.toUInt32 &&& Int32.toUInt32 31)).toInt32) (pc + 1) ls st mem
    | .idiv => pm_d2 (fun x y => x / y) (pc + 1) ls st mem
    | .irem => pm_d2 (fun x y => x - x / y * y) (pc + 1) ls st mem
    | .ineg => pm_b1 (fun x => -x) (pc + 1) ls st mem
    | .i2b => pm_b1 (fun x => x.toInt8.toInt32) (pc + 1) ls st mem
    | .i2s => pm_b1 (fun x => x.toInt16.toInt32) (pc + 1) ls st mem
    | .ladd => pm_l2 (fun x y => x + y) (pc + 1) ls st mem
    | .lsub => pm_l2 (fun x y => x - y) (pc + 1) ls st mem
    | .lmul => pm_l2 (fun x y => x * y) (pc + 1) ls st mem
    | .ldiv => pm_ld2 (fun x y => x / y) (pc + 1) ls st mem
    | .lrem => pm_ld2 (fun x y => x - x / y * y) (pc + 1) ls st mem
    | .lneg => pm_lneg (pc + 1) ls st mem
    | .i2l => pm_i2l (pc + 1) ls st mem
    | .lcmp => pm_lcmp (pc + 1) ls st mem
    | .dup => pm_dup (pc + 1) ls st mem
    | .pop => pm_pop (pc + 1) ls st mem
    | .dup2 => pm_dup2 (pc + 1) ls st mem
    | .goto _ => some (a, ls, st, mem)
    | .ifCond k _ => pm_ifc k a (pc + 3) ls st mem
    | .if_icmp k _ => pm_icm k a (pc + 3) ls st mem
    | .getfield _ => pm_getf a b (pc + 3) ls st mem
    | .putfield _ => pm_putf a b c (pc + 3) ls st mem
    | .getstatic _ => some (pc + 3, ls, .ref a :: st, mem)
    | .iaload => pm_ald ro (pc + 1) ls st mem
    | .iastore => pm_ast (pc + 1) ls st mem
    | .aaload => pm_aal (pc + 1) ls st mem
    | .arraylength => pm_aln ro (pc + 1) ls st mem
    | .tableswitch dflt lo hi offs => pm_tsw pc dflt lo hi offs ls st mem
    | .lookupswitch dflt ps => pm_lsw pc dflt ps ls st mem
    | _ => none
def pm_row : List pm_R → Nat → Option pm_R
  | [], _ => none
  | r :: rs, pc => bif Nat.beq r.1 pc then some r else pm_row rs pc
/-- a method's locals at its start -/
def pm_ent : Nat → List Value → List Value
  | 0, _ => []
  | n + 1, [] => .null :: pm_ent n []
  | n + 1, v :: vs => bif pm_isL (some v) then (match n with
    | 0 => []
    | k + 1 => v :: .null :: pm_ent k vs) else v :: pm_ent n vs
def pm_wid : List Value → Nat
  | [] => 0
  | v :: vs => (bif pm_isL (some v) then 2 else 1) + pm_wid vs
/-- may the row's call be made from a method with this room? -/
def pm_may (S J : pm_S) (As rest : List Value) : Bool :=
  Nat.ble (J.2.2.2.2.1 + 1) S.2.2.2.2.1 && Nat.ble (8 + (J.2.2.1 + 11) + J.2.2.2.2.2.1) S.2.2.2.2.2.1 && Nat.beq As.length J.2.2.2.2.2.2.1 && Nat.ble (pm_wid As) J.2.2.1 && Nat.ble ((rest.map fun v => v.category).sum) 8
/-- which kind of a row: 0 it steps, 1 it returns, 2 it calls (a method, or System.arraycopy) -/
def pm_kind (r : pm_R) : Nat := match r.2.1 with
  | .ireturn => 1
  | .lreturn => 1
  | .return_ => 1
  | .invokevirtual _ => 2
  | .invokestatic _ => 2
  | _ => 0
/-- what a method gives back -/
def pm_ret (S : pm_S) (r : pm_R) (st : List Value) : Option (Option Value) := match r.2.1, st, S.2.2.2.1 with
  | .ireturn, [.int v], some .int => some (some (.int v))
  | .ireturn, [.int v], some .boolean => bif decide (v = 0) || decide (v = 1) then some (some (.int v)) else none
  | .lreturn, [.long v], some .long => some (some (.long v))
  | .return_, [], none => some none
  | _, _, _ => none
/-- whom a row calls: its number, its head, the arguments in their order, what stays on the stack -/
def pm_cal (r : pm_R) (st : List Value) : Option (Nat × pm_S × List Value × List Value) := match r.2.1 with
  | .invokevirtual _ => match pm_sig[r.2.2.1]?, (st.take r.2.2.2.1).reverse with
    | some J, .ref t :: As => match pm_lay[t]? with
      | some (.inr (.inr (ci, _))) => bif Nat.beq ci r.2.2.2.2.1 then some (r.2.2.1, J, .ref t :: As, st.drop r.2.2.2.1) else none
      | _ => none
    | _, _ => none
  | .invokestatic _ => match pm_sig[r.2.2.1]? with
    | some J => bif !(Nat.ble 2 r.2.2.2.2.1) then some (r.2.2.1, J, (st.take r.2.2.2.1).reverse, st.drop r.2.2.2.1) else none
    | none => none
  | _ => none
def pm_m2 (f : Int32 → Int32 → Int32) (pc : Nat) (ls st : List Value) (mem : pm_M) : pm_O := match st with
  | .int y :: .int x :: rest => bif decide ((rest.map fun v => v.category).sum ≤ 8) then some (pc, ls, .int (f x y) :: rest, mem) else none
  | _ => none
def pm_m1 (f : Int32 → Int32) (pc : Nat) (ls st : List Value) (mem : pm_M) : pm_O := match st with
  | .int x :: rest => bif decide ((rest.map fun v => v.category).sum ≤ 8) then some (pc, ls, .int (f x) :: rest, mem) else none
  | _ => none
/-- System.arraycopy, Math.max, min, abs -/
def pm_isSp (r : pm_R) : Bool := match r.2.1 with
  | .invokestatic _ => Nat.ble 2 r.2.2.2.2.1
  | _ => false
def pm_spc (c pc : Nat) (ls st : List Value) (mem : pm_M) : pm_O := match c with
  | 2 => pm_cpy pc ls st mem
  | 3 => pm_m2 (fun x y => if x < y then y else x) pc ls st mem
  | 4 => pm_m2 (fun x y => if y < x then y else x) pc ls st mem
  | 5 => pm_m1 (fun x => if 0 ≤ x then x else 0 - x) pc ls st mem
  | _ => none
def pm_run (ro : pm_RO) : Nat → Nat → Nat → List Value → List Value → pm_M → Option (Option Value × pm_M)
  | 0, _, _, _, _, _ => none
  | n + 1, y, pc, ls, st, mem =>
    match pm_sig[y]?, pm_cod[y]? with
    | some S, some rs => match pm_row rs pc with
      | some r => match pm_kind r with
        | 0 => match pm_step ro r ls st mem with
          | some (pc', ls', st', mem') => pm_run ro n y pc' ls' st' mem'
          | none => none
        | 1 => (pm_ret S r st).map (fun v => (v, mem))
        | _ => bif pm_isSp r then (match pm_spc r.2.2.2.2.1 (pc + 3) ls st mem with
          | some (pc', ls', st', mem') => bif Nat.ble 1 S.2.2.2.2.1 && Nat.ble 26 S.2.2.2.2.2.1 then pm_run ro n y pc' ls' st' mem' else none
          | none => none) else (match pm_cal r st with
          | some (y', J, As, rest) => bif pm_may S J As rest then (match pm_run ro n y' 0 (pm_ent J.2.2.1 As) [] mem with
            | some (v, mem') => pm_run ro n y (pc + 3) ls (v.toList ++ rest) mem'
            | none => none) else none
          | none => none)
      | none => none
    | _, _ => none
end
section
def pm_nests : List Cond := [Cond.methodLinkNest "ReadFromRight$Sheet" 32 yX9_within "ReadFromRight"]
/-- the words that a callee takes along -/
def pm_tb : List Cond := lw_tbl.filter goodWord
/-- System.arraycopy, Math.max, min, abs: they aren't walked -/
def pm_oksp (own : String) (i c pl : Nat) : Bool := match c with
  | 2 => decide (lw_tbl[pl]? = some (Cond.methodLink own i arraycopyName))
  | 3 => decide (lw_tbl[pl]? = some (Cond.methodLink own i Lib.Math.max.name))
  | 4 => decide (lw_tbl[pl]? = some (Cond.methodLink own i Lib.Math.min.name))
  | 5 => decide (lw_tbl[pl]? = some (Cond.methodLink own i Lib.Math.abs.name))
  | _ => false
/-- a row is what the bytes say, and its links are among the tables' words -/
def pm_okr (S : pm_S) (r : pm_R) : Bool := match r with
  | (pc, ins, a, b, c, pl, w, w2) => decide (decode S.2.1 pc = .ok (ins, pm_len ins a)) && (match ins with
    | .iconst n => decide (Int32.ofInt n = w)
    | .bipush n => decide ((Int8.ofInt n).toInt32 = w)
    | .sipush n => decide ((Int16.ofInt n).toInt32 = w)
    | .lconst n => decide (Int64.ofNat (n : Nat) = w2)
    | .ldc i => decide (lw_tbl[pl]? = some (Cond.constant S.1.cls i w))
    | .ldc_w i => decide (lw_tbl[pl]? = some (Cond.constant S.1.cls i w))
    | .ldc2_w i => decide (lw_tbl[pl]? = some (Cond.constantLong S.1.cls i w2))
    | .iinc _ n => decide (Int32.ofInt n = w)
    | .getfield i => (match classes[a]? with
      | some q => decide (b < q.2.2) && decide (lw_tbl[pl]? = some (Cond.fieldLink S.1.cls i (q.2.1 b).1 (q.2.1 b).2.1 (q.2.1 b).2.2.1))
      | none => false)
    | .putfield i => (match classes[a]? with
      | some q => decide (b < q.2.2) && decide (lw_tbl[pl]? = some (Cond.fieldLink S.1.cls i (q.2.1 b).1 (q.2.1 b).2.1 (q.2.1 b).2.2.1)) && !(q.2.1 b).2.2.2 && ((decide (c = 0) && decide ((q.2.1 b).2.2.1 = "I")) || (decide (c = 1) && decide ((q.2.1 b).2.2.1 = "Z")))
      | none => false)
    | .getstatic i => (match pm_statics[b]? with
      | some q => decide (q.2.2.2 = a) && decide (lw_tbl[pl]? = some (Cond.fieldLink S.1.cls i q.1 q.2.1 q.2.2.1))
      | none => false)
    | .goto off => decide ((pc : Int) + off = (a : Int))
    | .ifCond _ off => decide ((pc : Int) + off = (a : Int))
    | .if_icmp _ off => decide ((pc : Int) + off = (a : Int))
    | .invokevirtual i => (match pm_sig[a]? with
      | some J => decide (lw_tbl[pl]? = some (Cond.methodLink S.1.cls i J.1)) && !J.2.2.2.2.2.2.2.1 && decide (J.2.2.2.2.2.2.1 = b) && decide (a ≠ m_L_law) && (match classes[c]? with
        | some q => decide (q.1 = J.1.cls)
        | none => false)
      | none => false)
    | .invokestatic i => bif decide (2 ≤ c) then pm_oksp S.1.cls i c pl else (match pm_sig[a]? with
      | some J => J.2.2.2.2.2.2.2.1 && decide (J.2.2.2.2.2.2.1 = b) && decide (a ≠ m_L_law) && (decide (lw_tbl[pl]? = some (Cond.methodLink S.1.cls i J.1)) || decide (Cond.methodLinkNest S.1.cls i J.1 "ReadFromRight" ∈ pm_nests))
      | none => false)
    | _ => true)
def pm_oks (J : pm_S) : Bool :=
  decide (lw_tbl[J.2.2.2.2.2.2.2.2.1]? = some (Cond.code J.1 J.2.1 J.2.2.1 J.2.2.2.1)) && decide (lw_tbl[J.2.2.2.2.2.2.2.2.2.1]? = some (Cond.initialized J.1.cls)) &&
  (bif J.2.2.2.2.2.2.2.1 then decide (lw_tbl[J.2.2.2.2.2.2.2.2.2.2.1]? = some (Cond.static J.1)) else decide (lw_tbl[J.2.2.2.2.2.2.2.2.2.2.1]? = some (Cond.instanceMethod J.1)) && decide (lw_tbl[J.2.2.2.2.2.2.2.2.2.2.2]? = some (Cond.selects J.1.cls J.1 J.1))) &&
  decide (J.1.cls ≠ "java/lang/invoke/MethodHandle") && decide (J.1.cls ≠ "java/lang/invoke/VarHandle") && plainName J.1.cls &&
  decide ((parseMethodDescriptor J.1.desc).map (fun d => d.parameters.length) = some (bif J.2.2.2.2.2.2.2.1 then J.2.2.2.2.2.2.1 else J.2.2.2.2.2.2.1 - 1)) && (J.2.2.2.2.2.2.2.1 || decide (0 < J.2.2.2.2.2.2.1))
def pm_okm (y : Nat) : Bool := match pm_sig[y]?, pm_cod[y]? with
  | some S, some rs => rs.all (pm_okr S) && pm_oks S
  | _, _ => false
theorem pm_mem {pl : Nat} {w : Cond} (hg : goodWord w = true) (h : lw_tbl[pl]? = some w) : w ∈ pm_tb := List.mem_filter.mpr ⟨List.mem_of_getElem? h, hg⟩
theorem pm_in_0 : ∀ w ∈ u_ws RX0 TX0 4, w ∈ lw_tbl ∧ goodWord w = true := by decide +kernel
theorem pm_in_1 : ∀ w ∈ u_ws RX1 TX1 6, w ∈ lw_tbl ∧ goodWord w = true := by decide +kernel
theorem pm_in_2 : ∀ w ∈ u_ws RX2 TX2 1, w ∈ lw_tbl ∧ goodWord w = true := by decide +kernel
theorem pm_in_3 : ∀ w ∈ u_ws RX3 TX3 3, w ∈ lw_tbl ∧ goodWord w = true := by decide +kernel
theorem pm_in_4 : ∀ w ∈ u_ws RX4 TX4 3, w ∈ lw_tbl ∧ goodWord w = true := by decide +kernel
theorem pm_in_5 : ∀ w ∈ u_ws RX5 TX5 3, w ∈ lw_tbl ∧ goodWord w = true := by decide +kernel
theorem pm_in_6 : ∀ w ∈ u_ws RX6 TX6 3, w ∈ lw_tbl ∧ goodWord w = true := by decide +kernel
theorem pm_in_7 : ∀ w ∈ u_ws RX7 TX7 12, w ∈ lw_tbl ∧ goodWord w = true := by decide +kernel
theorem pm_in_8 : ∀ w ∈ u_ws RX8 TX8 3, w ∈ lw_tbl ∧ goodWord w = true := by decide +kernel
theorem pm_in_9 : ∀ w ∈ u_ws RX9 TX9 11, w ∈ lw_tbl ∧ goodWord w = true := by decide +kernel
theorem pm_in_10 : ∀ w ∈ u_ws RX10 TX10 20, w ∈ lw_tbl ∧ goodWord w = true := by decide +kernel
def pm_ty : Nat → Nat → FieldType := fun c => match c with
  | 0 => tyX0
  | 1 => tyX1
  | 2 => tyX2
  | 3 => tyX3
  | 4 => tyX4
  | 5 => tyX5
  | 6 => tyX6
  | 7 => tyX7
  | 8 => tyX8
  | 9 => tyX9
  | _ => tyX10
theorem pm_cls {a : Nat} {q : vw_C} (h : classes[a]? = some q) : (∀ w ∈ u_ws q.1 q.2.1 q.2.2, w ∈ pm_tb) ∧ (∀ k, k < q.2.2 → parseFieldDescriptor (q.2.1 k).2.2.1 = some (pm_ty a k)) ∧ (∀ i, i < q.2.2 → ∀ j, j < q.2.2 → i ≠ j → (q.2.1 i).2.1 ≠ (q.2.1 j).2.1) := by
  match a, h with
  | 0, h => obtain rfl := Option.some.inj h; exact ⟨fun w hw => List.mem_filter.mpr (pm_in_0 w hw), tyX0_ok, nmX0⟩
  | 1, h => obtain rfl := Option.some.inj h; exact ⟨fun w hw => List.mem_filter.mpr (pm_in_1 w hw), tyX1_ok, nmX1⟩
  | 2, h => obtain rfl := Option.some.inj h; exact ⟨fun w hw => List.mem_filter.mpr (pm_in_2 w hw), tyX2_ok, nmX2⟩
  | 3, h => obtain rfl := Option.some.inj h; exact ⟨fun w hw => List.mem_filter.mpr (pm_in_3 w hw), tyX3_ok, nmX3⟩
  | 4, h => obtain rfl := Option.some.inj h; exact ⟨fun w hw => List.mem_filter.mpr (pm_in_4 w hw), tyX4_ok, nmX4⟩
  | 5, h => obtain rfl := Option.some.inj h; exact ⟨fun w hw => List.mem_filter.mpr (pm_in_5 w hw), tyX5_ok, nmX5⟩
  | 6, h => obtain rfl := Option.some.inj h; exact ⟨fun w hw => List.mem_filter.mpr (pm_in_6 w hw), tyX6_ok, nmX6⟩
  | 7, h => obtain rfl := Option.some.inj h; exact ⟨fun w hw => List.mem_filter.mpr (pm_in_7 w hw), tyX7_ok, nmX7⟩
  | 8, h => obtain rfl := Option.some.inj h; exact ⟨fun w hw => List.mem_filter.mpr (pm_in_8 w hw), tyX8_ok, nmX8⟩
  | 9, h => obtain rfl := Option.some.inj h; exact ⟨fun w hw => List.mem_filter.mpr (pm_in_9 w hw), tyX9_ok, nmX9⟩
  | 10, h => obtain rfl := Option.some.inj h; exact ⟨fun w hw => List.mem_filter.mpr (pm_in_10 w hw), tyX10_ok, nmX10⟩
  | k + 11, h => simp [classes] at h
theorem pm_w_cs : lw_tbl[705]? = some (Cond.static arraycopyName) := by decide +kernel
theorem pm_w_cn : lw_tbl[706]? = some (Cond.native arraycopyName) := by decide +kernel
theorem pm_w_ci : lw_tbl[60]? = some (Cond.initialized "java/lang/System") := by decide +kernel
theorem pm_w_mi : lw_tbl[57]? = some (Cond.initialized "java/lang/Math") := by decide +kernel
theorem pm_w_xs : lw_tbl[482]? = some (Cond.static Lib.Math.max.name) := by decide +kernel
theorem pm_w_ns : lw_tbl[412]? = some (Cond.static Lib.Math.min.name) := by decide +kernel
theorem pm_w_as : lw_tbl[580]? = some (Cond.static Lib.Math.abs.name) := by decide +kernel
theorem pm_w_xc : lw_tbl[483]? = some (Cond.code Lib.Math.max.name Lib.Math.max.code 2 (some .int)) := by decide +kernel
theorem pm_w_nc : lw_tbl[413]? = some (Cond.code Lib.Math.min.name Lib.Math.min.code 2 (some .int)) := by decide +kernel
theorem pm_w_ac : lw_tbl[581]? = some (Cond.code Lib.Math.abs.name Lib.Math.abs.code 1 (some .int)) := by decide +kernel
def pm_OK : Prop := (∀ {y : Nat} {S : pm_S} {rs : List pm_R}, pm_sig[y]? = some S → pm_cod[y]? = some rs → ∀ r ∈ rs, pm_okr S r = true) ∧ ∀ {y : Nat} {S : pm_S}, pm_sig[y]? = some S → y ≠ m_L_law → pm_oks S = true
end
section
/-! THE PURE MACHINE IS THE MACHINE: its steps. -/
theorem pm_v_cat (adr : Nat → Nat) (v : Value) : (pm_v adr v).category = v.category := by cases v <;> rfl
theorem pm_isL_cat (v : Value) : pm_isL (some v) = true ↔ v.category = 2 := by cases v <;> simp [pm_isL, Value.category]
theorem pm_isL_cat1 {v : Value} (h : (!(pm_isL (some v))) = true) : v.category = 1 := by cases v <;> first | rfl | (simp [pm_isL] at h)
def pm_lv (adr : Nat → Nat) : Nat → List Value → List (Nat × Value)
  | _, [] => []
  | i, v :: vs => bif decide (v = .null) then pm_lv adr (i + 1) vs else (i, pm_v adr v) :: pm_lv adr (i + 1) vs
theorem pm_lv_mem {adr : Nat → Nat} {q : Nat × Value} : ∀ (ls : List Value) (i : Nat), q ∈ pm_lv adr i ls ↔ ∃ (k : Nat) (v : Value), ls[k]? = some v ∧ v ≠ .null ∧ q = (i + k, pm_v adr v) := by
  intro ls
  induction ls with
  | nil => intro i; simp [pm_lv]
  | cons a t ih =>
    intro i
    by_cases ha : a = .null
    · simp only [pm_lv, ha, decide_true, cond_true, ih]
      constructor
      · rintro ⟨k, v, h1, h2, h3⟩
        exact ⟨k + 1, v, by simpa using h1, h2, by rw [h3]; congr 1; omega⟩
      · rintro ⟨k, v, h1, h2, h3⟩
        cases k with
        | zero => simp at h1; exact absurd h1.symm h2
        | succ k => exact ⟨k, v, by simpa using h1, h2, by rw [h3]; congr 1; omega⟩
    · simp only [pm_lv, ha, decide_false, cond_false, List.mem_cons, ih]
      constructor
      · rintro (rfl | ⟨k, v, h1, h2, h3⟩)
        · exact ⟨0, a, by simp, ha, by simp⟩
        · exact ⟨k + 1, v, by simpa using h1, h2, by rw [h3]; congr 1; omega⟩
      · rintro ⟨k, v, h1, h2, h3⟩
        cases k with
        | zero =>
          simp at h1
          subst h1
          exact Or.inl (by simpa using h3)
        | succ k => exact Or.inr ⟨k, v, by simpa using h1, h2, by rw [h3]; congr 1; omega⟩
def pm_L (adr : Nat → Nat) (nL : Nat) (ls : List Value) (la : Array Slot) : Prop := ls.length = nL ∧ lv_has la nL (pm_lv adr 0 ls)
theorem pm_L.get {adr : Nat → Nat} {nL : Nat} {ls : List Value} {la : Array Slot} (h : pm_L adr nL ls la) {i : Nat} {v : Value} (hg : ls[i]? = some v) (hv : v ≠ .null) : la[i]? = some (.val (pm_v adr v)) :=
  h.2.2.2 (i, pm_v adr v) ((pm_lv_mem ls 0).mpr ⟨i, v, hg, hv, by simp⟩)
theorem pm_L.size {adr : Nat → Nat} {nL : Nat} {ls : List Value} {la : Array Slot} (h : pm_L adr nL ls la) : la.size = nL := h.2.1
theorem pm_clr_len (ls : List Value) (i : Nat) : (pm_clr ls i).length = ls.length := by
  cases i with
  | zero => rfl
  | succ i => simp only [pm_clr]; cases pm_isL ls[i]? <;> simp
theorem pm_clr_get {ls : List Value} {i k : Nat} {v : Value} (h : (pm_clr ls i)[k]? = some v) (hv : v ≠ .null) : ls[k]? = some v ∧ ¬ (k + 1 = i ∧ v.category = 2) := by
  cases i with
  | zero => exact ⟨h, fun q => by omega⟩
  | succ i =>
    simp only [pm_clr] at h
    cases hl : pm_isL ls[i]? with
    | false =>
      rw [hl] at h
      simp only [cond_false] at h
      refine ⟨h, fun q => ?_⟩
      obtain ⟨q1, q2⟩ := q
      have : k = i := by omega
      subst this
      rw [h] at hl
      rw [(pm_isL_cat v).mpr q2] at hl
      cases hl
    | true =>
      rw [hl] at h
      simp only [cond_true, List.getElem?_set] at h
      by_cases hk : i = k
      · subst hk
        rw [if_pos rfl] at h
        split at h
        · exact absurd (Option.some.inj h).symm hv
        · cases h
      · rw [if_neg hk] at h
        exact ⟨h, fun q => hk (by omega)⟩
theorem pm_L.set1 {adr : Nat → Nat} {nL : Nat} {ls : List Value} {la la' : Array Slot} (h : pm_L adr nL ls la) {i : Nat} {v : Value}
    (h' : lv_has la' nL ((i, pm_v adr v) :: (pm_lv adr 0 ls).filter (fun q => !(q.1 == i) && !(q.1 + 1 == i && q.2.category == 2)))) : pm_L adr nL (pm_set ls i v) la' := by
  refine ⟨by simp only [pm_set, List.length_set, pm_clr_len]; exact h.1, h'.1, h'.2.1, fun q hq => h'.2.2 q ?_⟩
  obtain ⟨k, u, h1, h2, rfl⟩ := (pm_lv_mem _ 0).mp hq
  simp only [pm_set, List.getElem?_set] at h1
  by_cases hk : i = k
  · subst hk
    rw [if_pos rfl] at h1
    split at h1
    · cases h1
      simp
    · cases h1
  · rw [if_neg hk] at h1
    obtain ⟨g1, g2⟩ := pm_clr_get h1 h2
    refine List.mem_cons_of_mem _ (List.mem_filter.mpr ⟨(pm_lv_mem ls 0).mpr ⟨k, u, g1, h2, rfl⟩, ?_⟩)
    simp only [Nat.zero_add, Bool.and_eq_true, Bool.not_eq_true', beq_eq_false_iff_ne, ne_eq, Bool.and_eq_false_iff, pm_v_cat]
    refine ⟨fun q => hk q.symm, ?_⟩
    by_cases q : k + 1 = i
    · exact Or.inr (fun z => g2 ⟨q, z⟩)
    · exact Or.inl q
theorem pm_L.set2 {adr : Nat → Nat} {nL : Nat} {ls : List Value} {la la' : Array Slot} (h : pm_L adr nL ls la) {i : Nat} {v : Value}
    (h' : lv_has la' nL ((i, pm_v adr v) :: (pm_lv adr 0 ls).filter (fun q => !(q.1 == i) && (!(q.1 == i + 1) && !(q.1 + 1 == i && q.2.category == 2))))) : pm_L adr nL (pm_set2 ls i v) la' := by
  refine ⟨by simp only [pm_set2, List.length_set, pm_clr_len]; exact h.1, h'.1, h'.2.1, fun q hq => h'.2.2 q ?_⟩
  obtain ⟨k, u, h1, h2, rfl⟩ := (pm_lv_mem _ 0).mp hq
  simp only [pm_set2] at h1
  rw [List.getElem?_set] at h1
  by_cases hk2 : i + 1 = k
  · rw [if_pos hk2] at h1
    split at h1
    · exact absurd (Option.some.inj h1).symm h2
    · cases h1
  rw [if_neg hk2, List.getElem?_set] at h1
  by_cases hk : i = k
  · subst hk
    rw [if_pos rfl] at h1
    split at h1
    · cases h1
      simp
    · cases h1
  · rw [if_neg hk] at h1
    obtain ⟨g1, g2⟩ := pm_clr_get h1 h2
    refine List.mem_cons_of_mem _ (List.mem_filter.mpr ⟨(pm_lv_mem ls 0).mpr ⟨k, u, g1, h2, rfl⟩, ?_⟩)
    simp only [Nat.zero_add, Bool.and_eq_true, Bool.not_eq_true', beq_eq_false_iff_ne, ne_eq, Bool.and_eq_false_iff, pm_v_cat]
    refine ⟨fun q => hk q.symm, fun q => hk2 q.symm, ?_⟩
    by_cases q : k + 1 = i
    · exact Or.inr (fun z => g2 ⟨q, z⟩)
    · exact Or.inl q
/-! the world -/
def pm_slot (adr : Nat → Nat) (x : Int32) : Option Nat → Value
  | none => .int x
  | some q => .ref (adr q)
def pm_fs (adr : Nat → Nat) (f : Nat → Int32) (sl : List (Option Nat)) : List Value := sl.mapIdx (fun k o => pm_slot adr (f k) o)
def pm_cell (adr : Nat → Nat) (cI cS : ClassId) (f : Nat → Int32) (t : Nat) (k : pm_K) : Nat × va_E := match k with
  | .inl n => (adr t, .inl (cI, n, .inl f))
  | .inr (.inl tags) => (adr t, .inl (cS, tags.length, .inr (.inr (.inr (.inr (fun j => (tags[j]?).map adr))))))
  | .inr (.inr (ci, sl)) => (adr t, .inr (ci, pm_fs adr f sl))
def pm_ws (adr : Nat → Nat) (cI cS : ClassId) (mem : pm_M) : va_W := pm_lay.mapIdx (fun t k => pm_cell adr cI cS (mem t) t k)
theorem pm_ws_get {adr : Nat → Nat} {cI cS : ClassId} {mem : pm_M} {t : Nat} {k : pm_K} (h : pm_lay[t]? = some k) : (pm_ws adr cI cS mem)[t]? = some (pm_cell adr cI cS (mem t) t k) := by
  simp only [pm_ws, List.getElem?_mapIdx, h, Option.map_some]
theorem pm_cell_adr (adr : Nat → Nat) (cI cS : ClassId) (f : Nat → Int32) (t : Nat) (k : pm_K) : (pm_cell adr cI cS f t k).1 = adr t := by
  rcases k with n | tags | ⟨ci, sl⟩ <;> rfl
theorem pm_fs_len (adr : Nat → Nat) (f : Nat → Int32) (sl : List (Option Nat)) : (pm_fs adr f sl).length = sl.length := by simp [pm_fs]
theorem pm_fs_get {adr : Nat → Nat} {f : Nat → Int32} {sl : List (Option Nat)} {b : Nat} {o : Option Nat} (h : sl[b]? = some o) : (pm_fs adr f sl)[b]? = some (pm_slot adr (f b) o) := by
  simp only [pm_fs, List.getElem?_mapIdx, h, Option.map_some]
theorem pm_fs_set {adr : Nat → Nat} {f : Nat → Int32} {sl : List (Option Nat)} {b : Nat} {x : Int32} (h : sl[b]? = some none) : (pm_fs adr f sl).set b (.int x) = pm_fs adr (upd f b x) sl := by
  apply List.ext_getElem?
  intro j
  rw [List.getElem?_set]
  by_cases hj : b = j
  · subst hj
    have hl : b < sl.length := (List.getElem?_eq_some_iff.mp h).1
    rw [if_pos rfl, if_pos (by rw [pm_fs_len]; exact hl), pm_fs_get h]
    simp [upd, pm_slot]
  · rw [if_neg hj]
    cases ho : sl[j]? with
    | none => simp [pm_fs, ho]
    | some o =>
      rw [pm_fs_get ho, pm_fs_get ho]
      cases o with
      | none => simp only [upd, pm_slot]; rw [if_neg (fun q => hj q.symm)]
      | some q => rfl
theorem pm_ws_set {adr : Nat → Nat} {cI cS : ClassId} {mem : pm_M} {t : Nat} {k : pm_K} {f : Nat → Int32} (h : pm_lay[t]? = some k) : (pm_ws adr cI cS mem).set t (pm_cell adr cI cS f t k) = pm_ws adr cI cS (pm_upR mem t f) := by
  apply List.ext_getElem?
  intro j
  rw [List.getElem?_set]
  by_cases hj : t = j
  · subst hj
    have hl : t < pm_lay.length := (List.getElem?_eq_some_iff.mp h).1
    rw [if_pos rfl, if_pos (by simp only [pm_ws, List.length_mapIdx]; exact hl), pm_ws_get h]
    simp [pm_upR]
  · rw [if_neg hj]
    cases ho : pm_lay[j]? with
    | none => simp [pm_ws, ho]
    | some o =>
      rw [pm_ws_get ho, pm_ws_get ho]
      simp only [pm_upR]
      rw [if_neg (fun q => hj q.symm)]
theorem pm_up_R (mem : pm_M) (t k : Nat) (x : Int32) : pm_up mem t k x = pm_upR mem t (upd (mem t) k x) := rfl
/-- what the machine's statics and the cells that nobody writes hold, at a method's start -/
def pm_St (adr : Nat → Nat) (ro : pm_RO) (A : Nat → Prop) (U : State) : Prop := (∀ (t N : Nat) (f : Nat → Int32), pm_lay[t]? = none → ro t = some (N, f) → va_T .int (adr t) N (fun j => .int (f j)) A U U.heap) ∧ (∀ q ∈ pm_statics, va_Z q.1 q.2.1 q.2.2.1 (.ref (adr q.2.2.2)) A U U.heap) ∧ ∀ w ∈ pm_nests, va_Nw w U
abbrev pm_tys (cI cS : ClassId) : List (ClassId × FieldType) := [(cI, .int), (cS, .object "ReadFromRight$Sheet")]
def pm_Cx (p : Program) (R : Room) (s : State) (m : MethodId) (args : Array Value) (c : Code) (D : va_G) (adr : Nat → Nat) (cI cS : ClassId) (ro : pm_RO) (A : Nat → Prop) (S : pm_S) : Prop :=
  p.tables.exec = Jvm.exec ∧ c.code = S.2.1 ∧ c.maxLocals = S.2.2.1 ∧ s.vm.findClass S.1.cls = some m.cls ∧ (∀ w ∈ pm_tb, w.before args s = true) ∧ va_K D classes (pm_tys cI cS) s ∧ (∀ q : Nat, s.heap.size ≤ q → A q) ∧ pm_St adr ro A s ∧ S.2.2.2.2.1 ≤ R.frames ∧ S.2.2.2.2.2.1 ≤ R.locals
theorem pm_inb_in {i : Int32} {n : Nat} (h : pm_inb i n = true) : vp_in i n := by
  simp only [pm_inb, Bool.and_eq_true, Bool.not_eq_true', decide_eq_false_iff_not, decide_eq_true_eq] at h
  rintro (q | q)
  · exact h.1 q
  · omega
theorem pm_word {args : Array Value} {s : State} {pl : Nat} {w : Cond} (hts : ∀ w ∈ pm_tb, w.before args s = true) (hg : goodWord w = true) (h : lw_tbl[pl]? = some w) : w.before args s = true := hts w (pm_mem hg h)
section PMS
variable {p : Program} {l : Launch} {e : Env} {R : Room} {s : State} {m : MethodId} {args : Array Value} {below : List Frame} {meth : Method} {c : Code} {cells slots : Nat} {Q : State → Prop} {D : va_G} {adr : Nat → Nat} {cI cS : ClassId} {ro : pm_RO} {A : Nat → Prop} {S : pm_S}
/-- from every heap that holds the numbers, the machine at this frame comes to Q -/
def pm_Go (p : Program) (l : Launch) (e : Env) (R : Room) (s : State) (m : MethodId) (args : Array Value) (below : List Frame) (meth : Method) (c : Code) (cells slots : Nat) (Q : State → Prop) (D : va_G) (adr : Nat → Nat) (cI cS : ClassId) (A : Nat → Prop) (nL pc : Nat) (ls st : List Value) (mem : pm_M) : Prop :=
  ∀ (H : Heap) (locs : List Loc) (la : Array Slot), va_P D classes (pm_ws adr cI cS mem) H → va_D A (pm_ws adr cI cS mem) → va_S A s.heap H locs → pm_L adr nL ls la → W p l e R s m args below meth c H locs cells slots Q (F0 m pc la (st.map (pm_v adr)))
set_option maxHeartbeats 3000000 in
set_option maxRecDepth 100000 in
theorem pm_step_ok {r : pm_R} {ls st ls' st' : List Value} {mem mem' : pm_M} {pc' : Nat} (hs : pm_step ro r ls st mem = some (pc', ls', st', mem')) (hok : pm_okr S r = true) (C : pm_Cx p R s m args c D adr cI cS ro A S)
    (kk : pm_Go p l e R s m args below meth c cells slots Q D adr cI cS A S.2.2.1 pc' ls' st' mem') : pm_Go p l e R s m args below meth c cells slots Q D adr cI cS A S.2.2.1 r.1 ls st mem := by
  obtain ⟨pc, ins, a, b, d, pl, w, w2⟩ := r
  obtain ⟨hx, hb, hml, hown, hts, hK, hA, hSt, hfr, hlo⟩ := C
  unfold pm_okr at hok
  simp only [Bool.and_eq_true, decide_eq_true_eq] at hok
  obtain ⟨hd, hlk⟩ := hok
  intro H locs la hP hD hS hL
  show W p l e R s m args below meth c H locs cells slots Q (F0 m pc la (st.map (pm_v adr)))
  cases ins with
  | iconst n =>
    cases hs
    exact lv_iconst hx hb hd (of_decide_eq_true hlk) (kk _ _ _ hP hD hS hL)
  | bipush n =>
    cases hs
    exact lv_bipush hx hb hd (of_decide_eq_true hlk) (kk _ _ _ hP hD hS hL)
  | sipush n =>
    cases hs
    exact lv_sipush hx hb hd (of_decide_eq_true hlk) (kk _ _ _ hP hD hS hL)
  | lconst n =>
    cases hs
    exact lv_lconst hx hb hd (of_decide_eq_true hlk) (kk _ _ _ hP hD hS hL)
  | ldc n =>
    cases hs
    exact lv_ldc hx hb hown (pm_word hts rfl (of_decide_eq_true hlk)) hd (kk _ _ _ hP hD hS hL)
  | ldc_w n =>
    cases hs
    exact lv_ldcw hx hb hown (pm_word hts rfl (of_decide_eq_true hlk)) hd (kk _ _ _ hP hD hS hL)
  | ldc2_w n =>
    cases hs
    exact lv_ldc2 hx hb hown (pm_word hts rfl (of_decide_eq_true hlk)) hd (kk _ _ _ hP hD hS hL)
  | iload_n n =>
    have hs : pm_ldi (pc + 1) ls st mem n = some (pc', ls', st', mem') := hs
    unfold pm_ldi at hs
    split at hs
    next x hg => cases hs; exact lv_iload_n hx hb hd rfl (hL.get hg (by simp)) (kk _ _ _ hP hD hS hL)
    next => cases hs
  | iload n =>
    have hs : pm_ldi (pc + 2) ls st mem n = some (pc', ls', st', mem') := hs
    unfold pm_ldi at hs
    split at hs
    next x hg => cases hs; exact lv_iload hx hb hd (hL.get hg (by simp)) (kk _ _ _ hP hD hS hL)
    next => cases hs
  | lload_n n =>
    have hs : pm_ldl (pc + 1) ls st mem n = some (pc', ls', st', mem') := hs
    unfold pm_ldl at hs
    split at hs
    next x hg => cases hs; exact lv_lload_n hx hb hd rfl (hL.get hg (by simp)) (kk _ _ _ hP hD hS hL)
    next => cases hs
  | lload n =>
    have hs : pm_ldl (pc + 2) ls st mem n = some (pc', ls', st', mem') := hs
    unfold pm_ldl at hs
    split at hs
    next x hg => cases hs; exact lv_lload hx hb hd (hL.get hg (by simp)) (kk _ _ _ hP hD hS hL)
    next => cases hs
  | aload_n n =>
    have hs : pm_lda (pc + 1) ls st mem n = some (pc', ls', st', mem') := hs
    unfold pm_lda at hs
    split at hs
    next x hg => cases hs; exact lv_aload_n hx hb hd rfl (hL.get hg (by simp)) (kk _ _ _ hP hD hS hL)
    next => cases hs
  | aload n =>
    have hs : pm_lda (pc + 2) ls st mem n = some (pc', ls', st', mem') := hs
    unfold pm_lda at hs
    split at hs
    next x hg => cases hs; exact lv_aload hx hb hd (hL.get hg (by simp)) (kk _ _ _ hP hD hS hL)
    next => cases hs
  | istore_n n =>
    have hs : pm_sti (pc + 1) ls st mem n = some (pc', ls', st', mem') := hs
    unfold pm_sti at hs
    split at hs
    next x rest _ =>
      cases hq : Nat.blt n ls.length with
      | false => rw [hq] at hs; cases hs
      | true =>
        rw [hq] at hs; cases hs
        exact lv_istore_n hx hb hd rfl hL.2 (by rw [← hL.1]; exact Nat.le_of_ble_eq_true hq) rfl (fun la' h' => kk _ _ _ hP hD hS (hL.set1 (v := .int _) h'))
    next => cases hs
  | istore n =>
    have hs : pm_sti (pc + 2) ls st mem n = some (pc', ls', st', mem') := hs
    unfold pm_sti at hs
    split at hs
    next x rest _ =>
      cases hq : Nat.blt n ls.length with
      | false => rw [hq] at hs; cases hs
      | true =>
        rw [hq] at hs; cases hs
        exact lv_istore hx hb hd hL.2 (by rw [← hL.1]; exact Nat.le_of_ble_eq_true hq) rfl (fun la' h' => kk _ _ _ hP hD hS (hL.set1 (v := .int _) h'))
    next => cases hs
  | astore_n n =>
    have hs : pm_sta (pc + 1) ls st mem n = some (pc', ls', st', mem') := hs
    unfold pm_sta at hs
    split at hs
    next x rest _ =>
      cases hq : Nat.blt n ls.length with
      | false => rw [hq] at hs; cases hs
      | true =>
        rw [hq] at hs; cases hs
        exact lv_astore_n hx hb hd rfl hL.2 (by rw [← hL.1]; exact Nat.le_of_ble_eq_true hq) rfl (fun la' h' => kk _ _ _ hP hD hS (hL.set1 (v := .ref _) h'))
    next => cases hs
  | astore n =>
    have hs : pm_sta (pc + 2) ls st mem n = some (pc', ls', st', mem') := hs
    unfold pm_sta at hs
    split at hs
    next x rest _ =>
      cases hq : Nat.blt n ls.length with
      | false => rw [hq] at hs; cases hs
      | true =>
        rw [hq] at hs; cases hs
        exact lv_astore hx hb hd hL.2 (by rw [← hL.1]; exact Nat.le_of_ble_eq_true hq) rfl (fun la' h' => kk _ _ _ hP hD hS (hL.set1 (v := .ref _) h'))
    next => cases hs
  | lstore_n n =>
    have hs : pm_stl (pc + 1) ls st mem n = some (pc', ls', st', mem') := hs
    unfold pm_stl at hs
    split at hs
    next x rest _ =>
      cases hq : Nat.blt (n + 1) ls.length with
      | false => rw [hq] at hs; cases hs
      | true =>
        rw [hq] at hs; cases hs
        exact lv_lstore_n hx hb hd rfl hL.2 (by rw [← hL.1]; exact Nat.le_of_ble_eq_true hq) rfl (fun la' h' => kk _ _ _ hP hD hS (hL.set2 (v := .long _) h'))
    next => cases hs
  | lstore n =>
    have hs : pm_stl (pc + 2) ls st mem n = some (pc', ls', st', mem') := hs
    unfold pm_stl at hs
    split at hs
    next x rest _ =>
      cases hq : Nat.blt (n + 1) ls.length with
      | false => rw [hq] at hs; cases hs
      | true =>
        rw [hq] at hs; cases hs
        exact lv_lstore hx hb hd hL.2 (by rw [← hL.1]; exact Nat.le_of_ble_eq_true hq) rfl (fun la' h' => kk _ _ _ hP hD hS (hL.set2 (v := .long _) h'))
    next => cases hs
  | iinc i n =>
    have hs : pm_inc (pc + 3) ls st mem i w = some (pc', ls', st', mem') := hs
    unfold pm_inc at hs
    split at hs
    next x hg =>
      cases hq : Nat.blt i ls.length with
      | false => rw [hq] at hs; cases hs
      | true =>
        rw [hq] at hs; cases hs
        obtain ⟨k, hk⟩ := List.getElem?_of_mem ((pm_lv_mem (adr := adr) ls 0).mpr ⟨i, .int x, hg, by simp, rfl⟩)
        rw [Nat.zero_add] at hk
        exact lv_iinc (v := x + w) hx hb hd hL.2 hk (by rw [of_decide_eq_true hlk]) (by rw [← hL.1]; exact Nat.le_of_ble_eq_true hq) rfl (fun la' h' => kk _ _ _ hP hD hS (hL.set1 (v := .int (x + w)) h'))
    next => cases hs
  | iadd =>
    have hs : pm_b2 (fun x y => x + y) (pc + 1) ls st mem = some (pc', ls', st', mem') := hs
    unfold pm_b2 at hs
    split at hs
    next => cases hs; exact lv_iadd hx hb hd (kk _ _ _ hP hD hS hL)
    next => cases hs
  | isub =>
    have hs : pm_b2 (fun x y => x - y) (pc + 1) ls st mem = some (pc', ls', st', mem') := hs
    unfold pm_b2 at hs
    split at hs
    next => cases hs; exact lv_isub hx hb hd (kk _ _ _ hP hD hS hL)
    next => cases hs
  | imul =>
    have hs : pm_b2 (fun x y => x * y) (pc + 1) ls st mem = some (pc', ls', st', mem') := hs
    unfold pm_b2 at hs
    split at hs
    next => cases hs; exact lv_imul hx hb hd (kk _ _ _ hP hD hS hL)
    next => cases hs
  | iand =>
    have hs : pm_b2 (fun x y => x &&& y) (pc + 1) ls st mem = some (pc', ls', st', mem') := hs
    unfold pm_b2 at hs
    split at hs
    next => cases hs; exact lv_iand hx hb hd (kk _ _ _ hP hD hS hL)
    next => cases hs
  | ior =>
    have hs : pm_b2 (fun x y => x ||| y) (pc + 1) ls st mem = some (pc', ls', st', mem') := hs
    unfold pm_b2 at hs
    split at hs
    next => cases hs; exact lv_ior hx hb hd (kk _ _ _ hP hD hS hL)
    next => cases hs
  | ixor =>
    have hs : pm_b2 (fun x y => x ^^^ y) (pc + 1) ls st mem = some (pc', ls', st', mem') := hs
    unfold pm_b2 at hs
    split at hs
    next => cases hs; exact lv_ixor hx hb hd (kk _ _ _ hP hD hS hL)
    next => cases hs
  | ishl =>
    have hs : pm_b2 (fun x y => x <<< (y &&& 31)) (pc + 1) ls st mem = some (pc', ls', st', mem') := hs
    unfold pm_b2 at hs
    split at hs
    next => cases hs; exact lv_ishl hx hb hd (kk _ _ _ hP hD hS hL)
    next => cases hs
  | ishr =>
    have hs : pm_b2 (fun x y => x >>> (y &&& 31)) (pc + 1) ls st mem = some (pc', ls', st', mem') := hs
    unfold pm_b2 at hs
    split at hs
    next => cases hs; exact lv_ishr hx hb hd (kk _ _ _ hP hD hS hL)
    next => cases hs
  | iushr =>
    have hs : pm_b2 (fun x y => (x.toUInt32 >>> (y.toUInt32 &&& Int32.toUInt32 31)).toInt32) (pc + 1) ls st mem = some (pc', ls', st', mem') := hs
    unfold pm_b2 at hs
    split at hs
    next => cases hs; exact lv_iushr hx hb hd rfl (kk _ _ _ hP hD hS hL)
    next => cases hs
  | idiv =>
    have hs : pm_d2 (fun x y => x / y) (pc + 1) ls st mem = some (pc', ls', st', mem') := hs
    unfold pm_d2 at hs
    split at hs
    next y x rest _ =>
      by_cases hy : y = 0
      · simp only [hy, decide_true, Bool.not_true, cond_false] at hs; cases hs
      · simp only [hy, decide_false, Bool.not_false, cond_true] at hs; cases hs
        exact lv_idiv hx hb hd hy (kk _ _ _ hP hD hS hL)
    next => cases hs
  | irem =>
    have hs : pm_d2 (fun x y => x - x / y * y) (pc + 1) ls st mem = some (pc', ls', st', mem') := hs
    unfold pm_d2 at hs
    split at hs
    next y x rest _ =>
      by_cases hy : y = 0
      · simp only [hy, decide_true, Bool.not_true, cond_false] at hs; cases hs
      · simp only [hy, decide_false, Bool.not_false, cond_true] at hs; cases hs
        exact lv_irem hx hb hd hy (kk _ _ _ hP hD hS hL)
    next => cases hs
  | ineg =>
    have hs : pm_b1 (fun x => -x) (pc + 1) ls st mem = some (pc', ls', st', mem') := hs
    unfold pm_b1 at hs
    split at hs
    next => cases hs; exact lv_ineg hx hb hd (kk _ _ _ hP hD hS hL)
    next => cases hs
  | i2b =>
    have hs : pm_b1 (fun x => x.toInt8.toInt32) (pc + 1) ls st mem = some (pc', ls', st', mem') := hs
    unfold pm_b1 at hs
    split at hs
    next => cases hs; exact lv_i2b hx hb hd rfl (kk _ _ _ hP hD hS hL)
    next => cases hs
  | i2s =>
    have hs : pm_b1 (fun x => x.toInt16.toInt32) (pc + 1) ls st mem = some (pc', ls', st', mem') := hs
    unfold pm_b1 at hs
    split at hs
    next => cases hs; exact lv_i2s hx hb hd rfl (kk _ _ _ hP hD hS hL)
    next => cases hs
  | ladd =>
    have hs : pm_l2 (fun x y => x + y) (pc + 1) ls st mem = some (pc', ls', st', mem') := hs
    unfold pm_l2 at hs
    split at hs
    next => cases hs; exact lv_ladd hx hb hd (kk _ _ _ hP hD hS hL)
    next => cases hs
  | lsub =>
    have hs : pm_l2 (fun x y => x - y) (pc + 1) ls st mem = some (pc', ls', st', mem') := hs
    unfold pm_l2 at hs
    split at hs
    next => cases hs; exact lv_lsub hx hb hd (kk _ _ _ hP hD hS hL)
    next => cases hs
  | lmul =>
    have hs : pm_l2 (fun x y => x * y) (pc + 1) ls st mem = some (pc', ls', st', mem') := hs
    unfold pm_l2 at hs
    split at hs
    next => cases hs; exact lv_lmul hx hb hd (kk _ _ _ hP hD hS hL)
    next => cases hs
  | ldiv =>
    have hs : pm_ld2 (fun x y => x / y) (pc + 1) ls st mem = some (pc', ls', st', mem') := hs
    unfold pm_ld2 at hs
    split at hs
    next y x rest _ =>
      by_cases hy : y = 0
      · simp only [hy, decide_true, Bool.not_true, cond_false] at hs; cases hs
      · simp only [hy, decide_false, Bool.not_false, cond_true] at hs; cases hs
        exact lv_ldiv hx hb hd hy (kk _ _ _ hP hD hS hL)
    next => cases hs
  | lrem =>
    have hs : pm_ld2 (fun x y => x - x / y * y) (pc + 1) ls st mem = some (pc', ls', st', mem') := hs
    unfold pm_ld2 at hs
    split at hs
    next y x rest _ =>
      by_cases hy : y = 0
      · simp only [hy, decide_true, Bool.not_true, cond_false] at hs; cases hs
      · simp only [hy, decide_false, Bool.not_false, cond_true] at hs; cases hs
        exact lv_lrem hx hb hd hy (kk _ _ _ hP hD hS hL)
    next => cases hs
  | lneg =>
    have hs : pm_lneg (pc + 1) ls st mem = some (pc', ls', st', mem') := hs
    unfold pm_lneg at hs
    split at hs
    next => cases hs; exact lv_lneg hx hb hd (kk _ _ _ hP hD hS hL)
    next => cases hs
  | i2l =>
    have hs : pm_i2l (pc + 1) ls st mem = some (pc', ls', st', mem') := hs
    unfold pm_i2l at hs
    split at hs
    next => cases hs; exact lv_i2l hx hb hd rfl (kk _ _ _ hP hD hS hL)
    next => cases hs
  | lcmp =>
    have hs : pm_lcmp (pc + 1) ls st mem = some (pc', ls', st', mem') := hs
    unfold pm_lcmp at hs
    split at hs
    next => cases hs; exact W.lcmp hx hb hd (kk _ _ _ hP hD hS hL)
    next => cases hs
  | dup =>
    have hs : pm_dup (pc + 1) ls st mem = some (pc', ls', st', mem') := hs
    unfold pm_dup at hs
    split at hs
    next v rest _ =>
      cases hq : !(pm_isL (some v)) with
      | false => rw [hq] at hs; cases hs
      | true => rw [hq] at hs; cases hs; exact lv_dup hx hb hd (by rw [pm_v_cat]; exact pm_isL_cat1 hq) (kk _ _ _ hP hD hS hL)
    next => cases hs
  | pop =>
    have hs : pm_pop (pc + 1) ls st mem = some (pc', ls', st', mem') := hs
    unfold pm_pop at hs
    split at hs
    next v rest _ =>
      cases hq : !(pm_isL (some v)) with
      | false => rw [hq] at hs; cases hs
      | true => rw [hq] at hs; cases hs; exact lv_pop hx hb hd (by rw [pm_v_cat]; exact pm_isL_cat1 hq) (kk _ _ _ hP hD hS hL)
    next => cases hs
  | dup2 =>
    have hs : pm_dup2 (pc + 1) ls st mem = some (pc', ls', st', mem') := hs
    unfold pm_dup2 at hs
    split at hs
    next v u rest _ =>
      cases hq : !(pm_isL (some v)) && !(pm_isL (some u)) with
      | false => rw [hq] at hs; cases hs
      | true =>
        rw [hq] at hs; cases hs
        rw [Bool.and_eq_true] at hq
        exact lv_dup2_11 hx hb hd (by rw [pm_v_cat]; exact pm_isL_cat1 hq.1) (by rw [pm_v_cat]; exact pm_isL_cat1 hq.2) (kk _ _ _ hP hD hS hL)
    next => cases hs
  | goto off =>
    cases hs
    exact lv_goto hx hb hd (of_decide_eq_true hlk) (kk _ _ _ hP hD hS hL)
  | ifCond k off =>
    have hs : pm_ifc k a (pc + 3) ls st mem = some (pc', ls', st', mem') := hs
    have ht : (pc : Int) + off = (a : Int) := of_decide_eq_true hlk
    unfold pm_ifc at hs
    split at hs
    next x rest _ =>
      cases hs
      have kt := fun (h : pm_cnd k x 0 = true) => by have k1 := kk _ _ _ hP hD hS hL; rw [h, cond_true] at k1; exact k1
      have kf := fun (h : pm_cnd k x 0 = false) => by have k1 := kk _ _ _ hP hD hS hL; rw [h, cond_false] at k1; exact k1
      cases k with
      | eq => exact lv_if_eq hx hb hd ht (fun h => kt (decide_eq_true h)) (fun h => kf (decide_eq_false h))
      | ne => exact lv_if_ne hx hb hd ht (fun h => kt (decide_eq_true h)) (fun h => kf (decide_eq_false (not_not_intro h)))
      | lt => exact lv_if_lt hx hb hd ht (fun h => kt (decide_eq_true h)) (fun h => kf (decide_eq_false h))
      | ge => exact lv_if_ge hx hb hd ht (fun h => kt (decide_eq_true h)) (fun h => kf (decide_eq_false h))
      | gt => exact lv_if_gt hx hb hd ht (fun h => kt (decide_eq_true h)) (fun h => kf (decide_eq_false h))
      | le => exact lv_if_le hx hb hd ht (fun h => kt (decide_eq_true h)) (fun h => kf (decide_eq_false h))
    next => cases hs
  | if_icmp k off =>
    have hs : pm_icm k a (pc + 3) ls st mem = some (pc', ls', st', mem') := hs
    have ht : (pc : Int) + off = (a : Int) := of_decide_eq_true hlk
    unfold pm_icm at hs
    split at hs
    next y x rest _ =>
      cases hs
      have kt := fun (h : pm_cnd k x y = true) => by have k1 := kk _ _ _ hP hD hS hL; rw [h, cond_true] at k1; exact k1
      have kf := fun (h : pm_cnd k x y = false) => by have k1 := kk _ _ _ hP hD hS hL; rw [h, cond_false] at k1; exact k1
      cases k with
      | eq => exact lv_icmp_eq hx hb hd ht (fun h => kt (decide_eq_true h)) (fun h => kf (decide_eq_false h))
      | ne => exact lv_icmp_ne hx hb hd ht (fun h => kt (decide_eq_true h)) (fun h => kf (decide_eq_false (not_not_intro h)))
      | lt => exact lv_icmp_lt hx hb hd ht (fun h => kt (decide_eq_true h)) (fun h => kf (decide_eq_false h))
      | ge => exact lv_icmp_ge hx hb hd ht (fun h => kt (decide_eq_true h)) (fun h => kf (decide_eq_false h))
      | gt => exact lv_icmp_gt hx hb hd ht (fun h => kt (decide_eq_true h)) (fun h => kf (decide_eq_false h))
      | le => exact lv_icmp_le hx hb hd ht (fun h => kt (decide_eq_true h)) (fun h => kf (decide_eq_false h))
    next => cases hs
  | getfield i =>
    replace hs : pm_getf a b (pc + 3) ls st mem = some (pc', ls', st', mem') := hs
    replace hlk : (match classes[a]? with
      | some q => decide (b < q.2.2) && decide (lw_tbl[pl]? = some (Cond.fieldLink S.1.cls i (q.2.1 b).1 (q.2.1 b).2.1 (q.2.1 b).2.2.1))
      | none => false) = true := hlk
    cases hc : classes[a]? with
    | none => rw [hc] at hlk; cases hlk
    | some q =>
      rw [hc] at hlk
      simp only [Bool.and_eq_true, decide_eq_true_eq] at hlk
      obtain ⟨C0, T0, N0⟩ := q
      obtain ⟨g1, -, -⟩ := pm_cls hc
      unfold pm_getf at hs
      split at hs
      next t rest =>
        split at hs
        next ci sl hlay =>
          cases hq : Nat.beq ci a with
          | false => rw [hq] at hs; cases hs
          | true =>
            rw [hq] at hs
            have hq := Nat.eq_of_beq_eq_true hq
            subst hq
            have hcell : (pm_ws adr cI cS mem)[t]? = some (adr t, .inr (ci, pm_fs adr (mem t) sl)) := pm_ws_get hlay
            have hlk2 := pm_word hts rfl hlk.2
            have hbN : b < N0 := hlk.1
            rw [cond_true] at hs
            cases hb0 : sl[b]? with
            | none => rw [hb0] at hs; cases hs
            | some o =>
              have hv := pm_fs_get (adr := adr) (f := mem t) hb0
              rw [hb0] at hs
              cases o with
              | none =>
                have hs : some (pc + 3, ls, Value.int (mem t b) :: rest, mem) = some (pc', ls', st', mem') := hs
                simp only [Option.some.injEq, Prod.mk.injEq] at hs
                obtain ⟨rfl, rfl, rfl, rfl⟩ := hs
                exact va_get (D := D) (cl := classes) (ci := ci) (v := .int (mem t b)) (C := C0) (T := T0) (N := N0) (own := S.1.cls) (Ts := pm_tb) (fs := pm_fs adr (mem t) sl) (tys := pm_tys cI cS) hx hb hts g1 hown hK hP t hcell hc b hbN hlk2 (fun _ h9 => h9) hv hd (kk _ _ _ hP hD hS hL)
              | some q =>
                have hs : some (pc + 3, ls, Value.ref q :: rest, mem) = some (pc', ls', st', mem') := hs
                simp only [Option.some.injEq, Prod.mk.injEq] at hs
                obtain ⟨rfl, rfl, rfl, rfl⟩ := hs
                exact va_get (D := D) (cl := classes) (ci := ci) (v := .ref (adr q)) (C := C0) (T := T0) (N := N0) (own := S.1.cls) (Ts := pm_tb) (fs := pm_fs adr (mem t) sl) (tys := pm_tys cI cS) hx hb hts g1 hown hK hP t hcell hc b hbN hlk2 (fun _ h9 => h9) hv hd (kk _ _ _ hP hD hS hL)
        next => cases hs
      next => cases hs
  | putfield i =>
    replace hs : pm_putf a b d (pc + 3) ls st mem = some (pc', ls', st', mem') := hs
    replace hlk : (match classes[a]? with
      | some q => decide (b < q.2.2) && decide (lw_tbl[pl]? = some (Cond.fieldLink S.1.cls i (q.2.1 b).1 (q.2.1 b).2.1 (q.2.1 b).2.2.1)) && !(q.2.1 b).2.2.2 && ((decide (d = 0) && decide ((q.2.1 b).2.2.1 = "I")) || (decide (d = 1) && decide ((q.2.1 b).2.2.1 = "Z")))
      | none => false) = true := hlk
    cases hc : classes[a]? with
    | none => rw [hc] at hlk; cases hlk
    | some q =>
      rw [hc] at hlk
      simp only [Bool.and_eq_true, Bool.or_eq_true, Bool.not_eq_true', decide_eq_true_eq] at hlk
      obtain ⟨C0, T0, N0⟩ := q
      obtain ⟨g1, g2, g3⟩ := pm_cls hc
      obtain ⟨⟨⟨hbN, hpl⟩, hfin⟩, hty⟩ := hlk
      unfold pm_putf at hs
      split at hs
      next x t rest =>
        split at hs
        next ci sl hlay =>
          cases hq : (Nat.beq ci a && (Nat.beq d 0 || (Nat.beq d 1 && (decide (x = 0) || decide (x = 1))))) with
          | false => rw [hq] at hs; cases hs
          | true =>
            rw [hq] at hs
            simp only [Bool.and_eq_true, Bool.or_eq_true, decide_eq_true_eq] at hq
            have hq1 := Nat.eq_of_beq_eq_true hq.1
            subst hq1
            have hcell : (pm_ws adr cI cS mem)[t]? = some (adr t, .inr (ci, pm_fs adr (mem t) sl)) := pm_ws_get hlay
            have hpl2 := pm_word hts rfl hpl
            rw [cond_true] at hs
            split at hs
            next hb0 =>
              simp only [Option.some.injEq, Prod.mk.injEq] at hs
              obtain ⟨rfl, rfl, rfl, rfl⟩ := hs
              have hnf : ∃ ty, parseFieldDescriptor (T0 b).2.2.1 = some ty ∧ narrow ty (.int x) = .int x ∧ fits ty (.int x) = true := by
                rcases hty with ⟨z1, z2⟩ | ⟨z1, z2⟩
                · exact ⟨.int, by rw [z2]; decide +kernel, rfl, rfl⟩
                · refine ⟨.boolean, by rw [z2]; decide +kernel, ?_⟩
                  subst z1
                  rcases hq.2 with z | ⟨-, z | z⟩
                  · cases z
                  · subst z; exact ⟨by decide +kernel, by decide +kernel⟩
                  · subst z; exact ⟨by decide +kernel, by decide +kernel⟩
              obtain ⟨ty, n1, n2, n3⟩ := hnf
              refine va_put (D := D) (cl := classes) (ci := ci) (v := .int x) (ty := ty) (C := C0) (T := T0) (N := N0) (own := S.1.cls) (Ts := pm_tb) (fs := pm_fs adr (mem t) sl) (tys := pm_tys cI cS) hx hb hts g1 (pm_ty ci) g2 g3 hown hK hP hD hS t hcell hc b hbN hpl2 (fun _ h9 => h9) hfin n1 n2 n3 (by rw [pm_fs_len]; exact (List.getElem?_eq_some_iff.mp hb0).1) hd (fun H1 locs1 hP1 hD1 hS1 => ?_)
              rw [pm_fs_set hb0] at hP1 hD1
              have e9 := pm_ws_set (adr := adr) (cI := cI) (cS := cS) (mem := mem) (f := upd (mem t) b x) hlay
              exact kk _ _ _ (by rw [pm_up_R, ← e9]; exact hP1) (by rw [pm_up_R, ← e9]; exact hD1) hS1 hL
            next => cases hs
        next => cases hs
      next => cases hs
  | getstatic i =>
    cases hs
    have hlk : (match pm_statics[b]? with
      | some q => decide (q.2.2.2 = a) && decide (lw_tbl[pl]? = some (Cond.fieldLink S.1.cls i q.1 q.2.1 q.2.2.1))
      | none => false) = true := hlk
    cases hc : pm_statics[b]? with
    | none => rw [hc] at hlk; cases hlk
    | some q =>
      rw [hc] at hlk
      simp only [Bool.and_eq_true, decide_eq_true_eq] at hlk
      have hz := hSt.2.1 q (List.mem_of_getElem? hc)
      rw [hlk.1] at hz
      exact va_gets hx hb hz hS hown (pm_word hts rfl hlk.2) (fun _ h9 => h9) hd (kk _ _ _ hP hD hS hL)
  | iaload =>
    have hs : pm_ald ro (pc + 1) ls st mem = some (pc', ls', st', mem') := hs
    unfold pm_ald at hs
    split at hs
    next i t rest _ =>
      split at hs
      next n hlay =>
        cases hq : pm_inb i n with
        | false => rw [hq] at hs; cases hs
        | true =>
          rw [hq] at hs; cases hs
          exact va_iald hx hb hK hP t 0 (pm_ws_get hlay) rfl (pm_inb_in hq) hd (kk _ _ _ hP hD hS hL)
      next => cases hs
      next hlay =>
        split at hs
        next n f hro =>
          cases hq : pm_inb i n with
          | false => rw [hq] at hs; cases hs
          | true =>
            rw [hq] at hs; cases hs
            exact va_ti hx hb (hSt.1 t n f hlay hro) hS (pm_inb_in hq) rfl hd (kk _ _ _ hP hD hS hL)
        next => cases hs
    next => cases hs
  | iastore =>
    have hs : pm_ast (pc + 1) ls st mem = some (pc', ls', st', mem') := hs
    unfold pm_ast at hs
    split at hs
    next x i t rest _ =>
      split at hs
      next n hlay =>
        cases hq : pm_inb i n with
        | false => rw [hq] at hs; cases hs
        | true =>
          rw [hq] at hs; cases hs
          have e9 := pm_ws_set (adr := adr) (cI := cI) (cS := cS) (mem := mem) (f := upd (mem t) i.toNatClampNeg x) hlay
          exact va_iast hx hb hK hP hD hS t 0 (pm_ws_get hlay) rfl (pm_inb_in hq) hd (fun H1 locs1 hP1 hD1 hS1 => kk _ _ _ (by rw [pm_up_R, ← e9]; exact hP1) (by rw [pm_up_R, ← e9]; exact hD1) hS1 hL)
      next => cases hs
    next => cases hs
  | aaload =>
    have hs : pm_aal (pc + 1) ls st mem = some (pc', ls', st', mem') := hs
    unfold pm_aal at hs
    split at hs
    next i t rest _ =>
      split at hs
      next tags hlay =>
        cases hq : pm_inb i tags.length with
        | false => rw [hq] at hs; cases hs
        | true =>
          rw [hq] at hs
          simp only [cond_true] at hs
          split at hs
          next q hg =>
            cases hs
            refine va_aldq hx hb hK hP t 1 (pm_ws_get hlay) rfl (pm_inb_in hq) hd ?_
            simp only [hg, Option.map_some]
            exact kk _ _ _ hP hD hS hL
          next => cases hs
      next => cases hs
    next => cases hs
  | arraylength =>
    have hs : pm_aln ro (pc + 1) ls st mem = some (pc', ls', st', mem') := hs
    unfold pm_aln at hs
    split at hs
    next t rest _ =>
      split at hs
      next n hlay => cases hs; exact va_alen hx hb hK hP t 0 (pm_ws_get hlay) rfl rfl hd (kk _ _ _ hP hD hS hL)
      next => cases hs
      next hlay =>
        split at hs
        next n f hro => cases hs; exact va_tlen hx hb (hSt.1 t n f hlay hro) hS rfl hd (kk _ _ _ hP hD hS hL)
        next => cases hs
    next => cases hs
  | tableswitch dflt lo hi offs =>
    have hs : pm_tsw pc dflt lo hi offs ls st mem = some (pc', ls', st', mem') := hs
    unfold pm_tsw at hs
    split at hs
    next x rest _ =>
      cases hq : decide (x.toInt < lo) || decide (hi < x.toInt) with
      | true =>
        rw [hq] at hs
        simp only [cond_true, pm_tgt] at hs
        cases hz : decide (0 ≤ (pc : Int) + dflt) with
        | false => rw [hz] at hs; cases hs
        | true =>
          rw [hz] at hs; cases hs
          simp only [Bool.or_eq_true, decide_eq_true_eq] at hq
          exact lv_tableOut hx hb hd hq (Int.toNat_of_nonneg (of_decide_eq_true hz)).symm (kk _ _ _ hP hD hS hL)
      | false =>
        rw [hq] at hs
        simp only [Bool.or_eq_false_iff, decide_eq_false_iff_not] at hq
        simp only [cond_false] at hs
        split at hs
        next off ho =>
          simp only [pm_tgt] at hs
          cases hz : decide (0 ≤ (pc : Int) + off) with
          | false => rw [hz] at hs; cases hs
          | true => rw [hz] at hs; cases hs; exact lv_tableIn hx hb hd hq.1 hq.2 ho (Int.toNat_of_nonneg (of_decide_eq_true hz)).symm (kk _ _ _ hP hD hS hL)
        next => cases hs
    next => cases hs
  | lookupswitch dflt ps =>
    have hs : pm_lsw pc dflt ps ls st mem = some (pc', ls', st', mem') := hs
    unfold pm_lsw at hs
    split at hs
    next x rest _ =>
      cases hq : (ps.toList.zip (ps.toList.drop 1)).all (fun (a, next) => a.1 < next.1) with
      | false => rw [hq] at hs; cases hs
      | true =>
        rw [hq] at hs
        simp only [cond_true, pm_tgt] at hs
        cases hz : decide (0 ≤ (pc : Int) + Op.lookupswitch.offset ps.toList dflt x.toInt) with
        | false => rw [hz] at hs; cases hs
        | true => rw [hz] at hs; cases hs; exact lv_lookup hx hb hd hq rfl (Int.toNat_of_nonneg (of_decide_eq_true hz)).symm (kk _ _ _ hP hD hS hL)
    next => cases hs
  | _ => exact nomatch (show (none : pm_O) = some (pc', ls', st', mem') from hs)
end PMS
end
section
/-! THE PURE MACHINE IS THE MACHINE: calls, returns, runs. -/
theorem pm_ent_s {v : Value} (hv : pm_isL (some v) = false) (n : Nat) (vs : List Value) : pm_ent (n + 1) (v :: vs) = v :: pm_ent n vs := by
  cases n <;> simp [pm_ent, hv]
theorem pm_ent_d {v : Value} (hv : pm_isL (some v) = true) (k : Nat) (vs : List Value) : pm_ent (k + 2) (v :: vs) = v :: .null :: pm_ent k vs := by
  simp [pm_ent, hv]
theorem pm_ent_1 {v : Value} (hv : pm_isL (some v) = true) (vs : List Value) : pm_ent 1 (v :: vs) = [] := by
  simp [pm_ent, hv]
theorem pm_ent_len : ∀ (n : Nat) (As : List Value), pm_wid As ≤ n → (pm_ent n As).length = n := by
  intro n
  induction n using Nat.strongRecOn with
  | ind n ih =>
    intro As h
    match n, As, ih, h with
    | 0, _, _, _ => simp [pm_ent]
    | n + 1, [], ih, _ => simp [pm_ent, ih n (by omega) [] (by simp [pm_wid])]
    | n + 1, v :: vs, ih, h =>
      simp only [pm_wid] at h
      cases hv : pm_isL (some v) with
      | false =>
        rw [hv] at h
        simp only [cond_false] at h
        rw [pm_ent_s hv, List.length_cons, ih n (by omega) vs (by omega)]
      | true =>
        rw [hv] at h
        simp only [cond_true] at h
        match n, ih, h with
        | 0, _, h => omega
        | k + 1, ih, h => rw [pm_ent_d hv, List.length_cons, List.length_cons, ih k (by omega) vs (by omega)]
theorem pm_ent_nil {adr : Nat → Nat} {q : Nat × Value} : ∀ (n i : Nat), ¬ q ∈ pm_lv adr i (pm_ent n []) := by
  intro n
  induction n with
  | zero => intro i h; simp [pm_ent, pm_lv] at h
  | succ n ih => intro i h; simp only [pm_ent, pm_lv, decide_true, cond_true] at h; exact ih _ h
theorem pm_ent_lv {adr : Nat → Nat} {q : Nat × Value} : ∀ (n : Nat) (As : List Value) (i : Nat), q ∈ pm_lv adr i (pm_ent n As) → q ∈ lv_args i (As.map (pm_v adr)) := by
  intro n
  induction n using Nat.strongRecOn with
  | ind n ih =>
    intro As i h
    match n, As, ih, h with
    | 0, _, _, h => simp [pm_ent, pm_lv] at h
    | n + 1, [], ih, h => exact absurd h (pm_ent_nil _ _)
    | n + 1, v :: vs, ih, h =>
      simp only [List.map_cons, lv_args, pm_v_cat]
      cases hv : pm_isL (some v) with
      | false =>
        have hc : ¬ v.category = 2 := fun z => by rw [(pm_isL_cat v).mpr z] at hv; cases hv
        rw [if_neg hc]
        rw [pm_ent_s hv] at h
        simp only [pm_lv] at h
        cases hn : decide (v = Value.null) with
        | true =>
          rw [hn] at h
          exact List.mem_cons_of_mem _ (ih n (by omega) vs (i + 1) h)
        | false =>
          rw [hn] at h
          rcases List.mem_cons.mp h with h | h
          · rw [h]; exact List.mem_cons_self
          · exact List.mem_cons_of_mem _ (ih n (by omega) vs (i + 1) h)
      | true =>
        have hc : v.category = 2 := (pm_isL_cat v).mp hv
        rw [if_pos hc]
        match n, ih, h with
        | 0, _, h => rw [pm_ent_1 hv] at h; simp [pm_lv] at h
        | k + 1, ih, h =>
          have hn : decide (v = Value.null) = false := by
            apply decide_eq_false
            intro z
            rw [z] at hv
            cases hv
          rw [pm_ent_d hv] at h
          simp only [pm_lv, hn, cond_false, decide_true, cond_true] at h
          rcases List.mem_cons.mp h with h | h
          · rw [h]; exact List.mem_cons_self
          · exact List.mem_cons_of_mem _ (ih k (by omega) vs (i + 2) h)
theorem pm_sl_len (adr : Nat → Nat) : ∀ As : List Value, (lg_sl (As.map (pm_v adr))).length = pm_wid As := by
  intro As
  induction As with
  | nil => rfl
  | cons v vs ih =>
    simp only [lg_sl, List.map_cons, List.flatMap_cons, List.length_append, pm_wid, pm_v_cat] at ih ⊢
    rw [ih]
    cases hv : pm_isL (some v) with
    | false =>
      have hc : ¬ v.category = 2 := fun z => by rw [(pm_isL_cat v).mpr z] at hv; cases hv
      rw [if_neg hc]; rfl
    | true => rw [if_pos ((pm_isL_cat v).mp hv)]; rfl
theorem pm_St.go {adr : Nat → Nat} {ro : pm_RO} {A A' : Nat → Prop} {s U : State} {H : Heap} {locs : List Loc} (h : pm_St adr ro A s) (hS : va_S A s.heap H locs) (hU : U.heap = H) (hW : s.WarmedH U.vm) (hA : ∀ q, A' q → A q) : pm_St adr ro A' U := by
  obtain ⟨h1, h2, h3⟩ := h
  refine ⟨fun t N f hl hr => ?_, fun q hq => ?_, fun w hw => ?_⟩
  · rw [hU]
    exact (((h1 t N f hl hr).kept hS.2.1).narrow hA).moved hW.alike
  · rw [hU]
    exact (((h2 q hq).kept hS.2.1).narrow hA).moved hW.alike
  · have h4 := h3 w hw
    simp only [pm_nests, List.mem_cons, List.not_mem_nil, or_false] at hw
    subst hw
    exact va_Nw.warmM hW h4
theorem pm_St.calling {adr : Nat → Nat} {ro : pm_RO} {A : Nat → Prop} {U : State} (h : pm_St adr ro A U) (g : JFrame) (mk : MethodId) (a : Array Value) : pm_St adr ro A (U.calling g mk a) := by
  obtain ⟨h1, h2, h3⟩ := h
  refine ⟨fun t N f hl hr => (h1 t N f hl hr).moved (u := U) (U := U.calling g mk a) (Vm.Alike.refl U.vm), fun q hq => (h2 q hq).moved (u := U) (U := U.calling g mk a) (Vm.Alike.refl U.vm), fun w hw => ?_⟩
  have h4 := h3 w hw
  simp only [pm_nests, List.mem_cons, List.not_mem_nil, or_false] at hw
  subst hw
  exact va_Nw.same (u := U) (U := U.calling g mk a) rfl rfl h4
section PMR
variable {p : Program} {l : Launch} {e : Env} {R : Room} {s : State} {m : MethodId} {args : Array Value} {below : List Frame} {meth : Method} {c : Code} {cells slots : Nat} {Q : State → Prop} {D : va_G} {adr : Nat → Nat} {cI cS : ClassId} {ro : pm_RO} {A : Nat → Prop} {S : pm_S}
def pm_Qc (D : va_G) (adr : Nat → Nat) (cI cS : ClassId) (A1 : Nat → Prop) (v : Option Value) (mem : pm_M) : Array Value → State → Outcome → State → Prop := fun _ st oc t => oc = .returned (v.map (pm_v adr)) ∧ va_P D classes (pm_ws adr cI cS mem) t.heap ∧ va_D A1 (pm_ws adr cI cS mem) ∧ va_F A1 st t
def pm_Pc (D : va_G) (adr : Nat → Nat) (cI cS : ClassId) (ro : pm_RO) (sz : Nat) (As : List Value) (mem : pm_M) : Array Value → State → Prop := va_Pc (As.map (pm_v adr)) (fun U => U.heap.size = sz ∧ va_P D classes (pm_ws adr cI cS mem) U.heap ∧ va_K D classes (pm_tys cI cS) U ∧ va_D (fun _ => True) (pm_ws adr cI cS mem) ∧ pm_St adr ro (va_A (pm_ws adr cI cS mem) sz) U)
theorem pm_Pc.blind {sz : Nat} {As : List Value} {mem : pm_M} : FrameBlind (pm_Pc D adr cI cS ro sz As mem) := fun a U g mk q => ⟨q.1, q.2.1, q.2.2.1, va_K.moved (u := U) (U := U.calling g mk a) (Vm.Alike.refl U.vm) q.2.2.2.1, q.2.2.2.2.1, q.2.2.2.2.2.calling g mk a⟩
theorem pm_behind {A0 A1 : Nat → Prop} {H0 H : Heap} {locs : List Loc} {pc : Nat} {la : Array Slot} {st0 rest : List Value} {a : Array Value} {v : Option Value} {mem : pm_M} {free : Addr → Prop}
    (hr : va_Run p l e R s m args below meth c H locs cells slots 0 0 (F0 m pc la st0) rest (pm_Qc D adr cI cS A1 v mem a) free) (hS : va_S A0 H0 H locs) (hA : ∀ q, A1 q → A0 q) (hf : ∀ q, free q → A0 q)
    (kk : ∀ (H1 : Heap) (locs1 : List Loc), va_P D classes (pm_ws adr cI cS mem) H1 → va_D A0 (pm_ws adr cI cS mem) → va_S A0 H0 H1 locs1 → W p l e R s m args below meth c H1 locs1 cells slots Q (F0 m (pc + 3) la ((v.map (pm_v adr)).toList ++ rest))) : W p l e R s m args below meth c H locs cells slots Q (F0 m pc la st0) := by
  intro T hT X
  obtain ⟨v', st₀, t, T', L, h0, X', hL, e1, e2, ⟨hv, hP1, hD1, hz, hk⟩, st⟩ := hr T hT X
  cases hv
  rw [h0] at hz hk
  obtain ⟨t2, a1, b1⟩ := kk T'.heap (locs ++ L) (by rw [e1]; exact hP1) (hD1.weaken (fun _ q _ h => hA q.1 h))
    ⟨Nat.le_trans hS.1 (by rw [e1]; exact hz), fun q h1 h2 => by rw [e1, hk q (Nat.lt_of_lt_of_le h1 hS.1) (fun z => h2 (hA q z))]; exact hS.2.1 q h1 h2, fun q hq => by
      rcases List.mem_append.mp hq with h | h
      · exact hS.2.2 q h
      · exact hf _ (hL q h)⟩ T' rfl X'
  exact ⟨t2, st t2 a1, b1⟩
/-- where a method returns -/
def pm_End (S : pm_S) (pc : Nat) (v : Option Value) : Prop :=
  (∃ x : Int32, v = some (.int x) ∧ decode S.2.1 pc = .ok (.ireturn, 1) ∧ (S.2.2.2.1 = some .int ∨ (S.2.2.2.1 = some .boolean ∧ (x = 0 ∨ x = 1)))) ∨ (∃ x : Int64, v = some (.long x) ∧ decode S.2.1 pc = .ok (.lreturn, 1) ∧ S.2.2.2.1 = some .long) ∨ (v = none ∧ decode S.2.1 pc = .ok (.return_, 1) ∧ S.2.2.2.1 = none)
/-- what a run of n steps says of the machine -/
def pm_Snd (ro : pm_RO) (n : Nat) : Prop := ∀ (y pc : Nat) (ls st : List Value) (mem : pm_M) (v : Option Value) (mem' : pm_M), pm_run ro n y pc ls st mem = some (v, mem') →
  ∀ (p : Program) (l : Launch) (e : Env) (R : Room) (s : State) (m : MethodId) (args : Array Value) (below : List Frame) (meth : Method) (c : Code) (cells slots : Nat) (Q : State → Prop) (D : va_G) (adr : Nat → Nat) (cI cS : ClassId) (A : Nat → Prop) (S : pm_S), pm_sig[y]? = some S → pm_Cx p R s m args c D adr cI cS ro A S → cells ≤ R.cells → slots ≤ R.slots →
  (∀ (pc' : Nat) (la' : Array Slot) (H' : Heap) (locs' : List Loc), va_P D classes (pm_ws adr cI cS mem') H' → va_D A (pm_ws adr cI cS mem') → va_S A s.heap H' locs' → pm_End S pc' v → W p l e R s m args below meth c H' locs' cells slots Q (F0 m pc' la' (v.map (pm_v adr)).toList)) →
  pm_Go p l e R s m args below meth c cells slots Q D adr cI cS A S.2.2.1 pc ls st mem
theorem pm_good {ws : List Cond} (h : ∀ w ∈ ws, w ∈ pm_tb) : GoodIn pm_tb ws := fun w hw => ⟨h w hw, good_of_word (List.mem_filter.mp (h w hw)).2⟩
set_option maxHeartbeats 1000000 in
/-- a run of a whole method is a contract of it -/
theorem pm_met {n y : Nat} (ih : pm_Snd ro n) {J : pm_S} (hsig : pm_sig[y]? = some J) (hok : pm_oks J = true) {As : List Value} (hw : pm_wid As ≤ J.2.2.1) {mem mem' : pm_M} {v : Option Value} (hrun : pm_run ro n y 0 (pm_ent J.2.2.1 As) [] mem = some (v, mem')) (l : Launch) (D : va_G) (adr : Nat → Nat) (cI cS : ClassId) (sz : Nat) :
    Met l J.1 (.code J.1 J.2.1 J.2.2.1 J.2.2.2.1 :: pm_tb) ({ frames := J.2.2.2.2.1, cells := 0, slots := 0, locals := J.2.2.2.2.2.1 }) (pm_Pc D adr cI cS ro sz As mem) (pm_Qc D adr cI cS (va_A (pm_ws adr cI cS mem) sz) v mem') 0 0 (va_A (pm_ws adr cI cS mem) sz) := by
  unfold pm_oks at hok
  simp only [Bool.and_eq_true, decide_eq_true_eq] at hok
  obtain ⟨⟨⟨-, hpl⟩, -⟩, -⟩ := hok
  refine Met.ofW (cc := J.2.1) (maxL := J.2.2.1) (ret := J.2.2.2.1) hpl rfl ?_
  intro p e s m args below meth c s₁ B hml hv
  obtain ⟨rfl, hsz, hP, hK, hD0, hSt⟩ := hv
  have hx := B.exec
  have hb := B.bytes
  have hr := B.returns
  have hts := atoms_spec (ws := .code J.1 J.2.1 J.2.2.1 J.2.2.2.1 :: pm_tb) B.pre
  have hown : s.vm.findClass J.1.cls = some m.cls := findClass_of_methodNamed B.named
  have hlocks := B.notSynchronized
  subst hsz
  have hD := hD0.self (sz := s.heap.size)
  have hl := lv_entry (As.map (pm_v adr)) (n := J.2.2.1) (by rw [pm_sl_len]; exact hw)
  rw [lg_entry_eq]
  refine ih y 0 (pm_ent J.2.2.1 As) [] mem v mem' hrun p l e _ s m _ below meth c 0 0 _ D adr cI cS (va_A (pm_ws adr cI cS mem) s.heap.size) J hsig ⟨hx, hb, hml, hown, fun w h => hts w (List.mem_cons_of_mem _ h), hK, fun q h => Or.inr h, hSt, Nat.le_refl _, Nat.le_refl _⟩ (Nat.zero_le _) (Nat.zero_le _) ?_ s.heap [] _ hP hD va_S.rf ⟨pm_ent_len _ _ hw, hl.1, hl.2.1, fun q hq => hl.2.2 q (pm_ent_lv _ _ _ hq)⟩
  intro pc' la' H' locs' hP' hD' hS' hE
  rcases hE with ⟨x, rfl, hd, hret | ⟨hret, hx01⟩⟩ | ⟨x, rfl, hd, hret⟩ | ⟨rfl, hd, hret⟩
  · exact W.iret (v := x) hx hb (by rw [hr]; exact hret) (fun t ht hW => ⟨rfl, by rw [ht]; exact hP', hD', hS'.F ht⟩) hS'.2.2 hd
  · exact W.zret (v := x) (ty := .boolean) hx hb (by rw [hr]; exact hret) (by rcases hx01 with rfl | rfl <;> decide +kernel) (fun t ht hW => ⟨rfl, by rw [ht]; exact hP', hD', hS'.F ht⟩) hS'.2.2 hd
  · exact W.lret (v := x) hx hb (by rw [hr]; exact hret) (fun t ht hW => ⟨rfl, by rw [ht]; exact hP', hD', hS'.F ht⟩) hS'.2.2 hd
  · exact W.vret hx hb (by rw [hr]; exact hret) (fun t ht hW => ⟨rfl, by rw [ht]; exact hP', hD', hS'.F ht⟩) hS'.2.2 hd
theorem pm_ws_all (adr : Nat → Nat) (cI cS : ClassId) (mem : pm_M) : (List.range pm_lay.length).map (fun i => (pm_ws adr cI cS mem)[i]?) = (pm_ws adr cI cS mem).map some := by
  apply List.ext_getElem?
  intro j
  rw [List.getElem?_map, List.getElem?_map]
  by_cases hj : j < pm_lay.length
  · rw [List.getElem?_range hj]
    have h1 : j < (pm_ws adr cI cS mem).length := by simp only [pm_ws, List.length_mapIdx]; exact hj
    rw [List.getElem?_eq_getElem h1]
    simp [h1]
  · have h1 : (pm_ws adr cI cS mem)[j]? = none := by
      rw [List.getElem?_eq_none_iff]; simp only [pm_ws, List.length_mapIdx]; omega
    rw [h1, List.getElem?_eq_none_iff.mpr (by rw [List.length_range]; omega)]
    rfl
theorem pm_rev_take {st As : List Value} {b : Nat} (h : (st.take b).reverse = As) : st = As.reverse ++ st.drop b := by
  rw [← h, List.reverse_reverse, List.take_append_drop]
set_option maxHeartbeats 2000000 in
/-- a call -/
theorem pm_call_ok {n y' : Nat} (hOK : pm_OK) (ih : pm_Snd ro n) {r : pm_R} {ls st As rest : List Value} {mem mem' : pm_M} {v : Option Value} {J : pm_S} (hcal : pm_cal r st = some (y', J, As, rest)) (hmay : pm_may S J As rest = true) (hrun : pm_run ro n y' 0 (pm_ent J.2.2.1 As) [] mem = some (v, mem'))
    (hok : pm_okr S r = true) (C : pm_Cx p R s m args c D adr cI cS ro A S) (hc : cells ≤ R.cells) (hsl : slots ≤ R.slots)
    (kk : pm_Go p l e R s m args below meth c cells slots Q D adr cI cS A S.2.2.1 (r.1 + 3) ls (v.toList ++ rest) mem') : pm_Go p l e R s m args below meth c cells slots Q D adr cI cS A S.2.2.1 r.1 ls st mem := by
  obtain ⟨pc, ins, a, b, d, pl, w, w2⟩ := r
  obtain ⟨hx, hb, hml, hown, hts, hK, hA, hSt, hfr, hlo⟩ := C
  unfold pm_okr at hok
  simp only [Bool.and_eq_true, decide_eq_true_eq] at hok
  obtain ⟨hd, hlk⟩ := hok
  unfold pm_may at hmay
  simp only [Bool.and_eq_true] at hmay
  obtain ⟨⟨⟨⟨m1, m2⟩, m3⟩, m4⟩, m5⟩ := hmay
  have m1 := Nat.le_of_ble_eq_true m1
  have m2 := Nat.le_of_ble_eq_true m2
  have m3 := Nat.eq_of_beq_eq_true m3
  have m4 := Nat.le_of_ble_eq_true m4
  have m5 := Nat.le_of_ble_eq_true m5
  have hrest : ((rest.map (pm_v adr)).map fun v => v.category).sum ≤ 8 := by
    rw [List.map_map]
    have : ((fun v : Value => v.category) ∘ pm_v adr) = fun v => v.category := funext fun v => pm_v_cat adr v
    rw [this]
    exact m5
  intro H locs la hP hD hS hL
  show W p l e R s m args below meth c H locs cells slots Q (F0 m pc la (st.map (pm_v adr)))
  have hFc := va_free (wc := pm_ws adr cI cS mem) hD hS hA (List.range pm_lay.length) (pm_ws_all adr cI cS mem)
  have hvl : (v.map (pm_v adr)).toList ++ rest.map (pm_v adr) = (v.toList ++ rest).map (pm_v adr) := by cases v <;> simp
  cases ins with
  | invokevirtual i =>
    replace hlk : (match pm_sig[a]? with
      | some J => decide (lw_tbl[pl]? = some (Cond.methodLink S.1.cls i J.1)) && !J.2.2.2.2.2.2.2.1 && decide (J.2.2.2.2.2.2.1 = b) && decide (a ≠ m_L_law) && (match classes[d]? with
        | some q => decide (q.1 = J.1.cls)
        | none => false)
      | none => false) = true := hlk
    replace hcal : (match pm_sig[a]?, (st.take b).reverse with
      | some J, .ref t :: As => match pm_lay[t]? with
        | some (.inr (.inr (ci, _))) => bif Nat.beq ci d then some (a, J, .ref t :: As, st.drop b) else none
        | _ => none
      | _, _ => none) = some (y', J, As, rest) := hcal
    split at hcal
    next J0 t As0 hsig htk =>
      split at hcal
      next ci sl hlay =>
        cases hq : Nat.beq ci d with
        | false => rw [hq] at hcal; cases hcal
        | true =>
          rw [hq] at hcal
          have hq := Nat.eq_of_beq_eq_true hq
          subst hq
          cases hcal
          rw [hsig] at hlk
          simp only [Bool.and_eq_true, decide_eq_true_eq, Bool.not_eq_true'] at hlk
          obtain ⟨⟨⟨⟨k1, k2⟩, k3⟩, k4⟩, k5⟩ := hlk
          have hoks := hOK.2 hsig k4
          have hM := pm_met ih hsig hoks m4 hrun l D adr cI cS H.size
          unfold pm_oks at hoks
          rw [k2] at hoks
          simp only [Bool.and_eq_true, decide_eq_true_eq, cond_false, Bool.false_or] at hoks
          obtain ⟨⟨⟨⟨⟨⟨⟨o1, o2⟩, o3, o4⟩, o5⟩, o6⟩, o7⟩, o8⟩, o9⟩ := hoks
          cases hcl : classes[ci]? with
          | none => rw [hcl] at k5; cases k5
          | some q =>
            rw [hcl] at k5
            have k5 : q.1 = J.1.cls := of_decide_eq_true k5
            have hst := pm_rev_take htk
            have hlen : As0.length = J.2.2.2.2.2.2.1 - 1 := by
              have : (Value.ref t :: As0).length = J.2.2.2.2.2.2.1 := m3
              simp only [List.length_cons] at this
              omega
            have hrecv := va_recv hK hP hcl (pm_ws_get (adr := adr) (cI := cI) (cS := cS) (mem := mem) hlay)
            rw [k5] at hrecv
            refine pm_behind (va_runV (As := As0.map (pm_v adr)) (rest := (st.drop b).map (pm_v adr)) (b := adr t) (C := J.1.cls) ⟨hx, hb, hml, hown, hts⟩ hM
              (cwV (J.2.2.2.2.2.2.1 - 1) hts (pm_good (fun w hw => by
                simp only [wsV, List.mem_append, List.mem_cons, List.not_mem_nil, or_false] at hw
                rcases hw with (rfl | rfl | rfl | rfl) | rfl | hw
                · exact pm_mem rfl k1
                · exact pm_mem rfl o3
                · exact pm_mem rfl o4
                · exact pm_mem rfl o2
                · exact pm_mem rfl o1
                · exact hw)) rfl rfl rfl ⟨rfl, o5, o6, o8⟩ ⟨Nat.le_trans m1 hfr, Nat.le_trans m2 hlo⟩)
              ⟨pm_Pc.blind, hrecv, fun U hU hW => ⟨rfl, by rw [hU], by rw [hU]; exact hP, va_K.moved hW.alike hK, hD.weaken (fun _ _ _ _ => trivial), hSt.go hS hU hW hFc⟩⟩
              rfl (by rw [List.length_map]; exact hlen) (hL.size.trans rfl) ?_ (lv_room hrest) hd ⟨hc, hsl⟩) hS hFc hFc (fun H1 locs1 hP1 hD1 hS1 => ?_)
            · show st.map (pm_v adr) = _
              conv => lhs; rw [hst]
              simp [pm_v]
            · rw [hvl]
              exact kk _ _ _ hP1 hD1 hS1 hL
      next => cases hcal
    next => cases hcal
  | invokestatic i =>
    replace hlk : (bif decide (2 ≤ d) then pm_oksp S.1.cls i d pl else (match pm_sig[a]? with
      | some J => J.2.2.2.2.2.2.2.1 && decide (J.2.2.2.2.2.2.1 = b) && decide (a ≠ m_L_law) && (decide (lw_tbl[pl]? = some (Cond.methodLink S.1.cls i J.1)) || decide (Cond.methodLinkNest S.1.cls i J.1 "ReadFromRight" ∈ pm_nests))
      | none => false)) = true := hlk
    replace hcal : (match pm_sig[a]? with
      | some J => bif !(Nat.ble 2 d) then some (a, J, (st.take b).reverse, st.drop b) else none
      | none => none) = some (y', J, As, rest) := hcal
    split at hcal
    next J0 hsig =>
      cases hq : Nat.ble 2 d with
      | true => rw [hq] at hcal; cases hcal
      | false =>
        rw [hq] at hcal
        cases hcal
        have hd2 : decide (2 ≤ d) = false := decide_eq_false (fun z => by rw [Nat.ble_eq_true_of_le z] at hq; cases hq)
        rw [hd2, hsig] at hlk
        simp only [cond_false, Bool.and_eq_true, Bool.or_eq_true, decide_eq_true_eq] at hlk
        obtain ⟨⟨⟨k2, k3⟩, k4⟩, k1⟩ := hlk
        have hoks := hOK.2 hsig k4
        have hM := pm_met ih hsig hoks m4 hrun l D adr cI cS H.size
        unfold pm_oks at hoks
        rw [k2] at hoks
        simp only [Bool.and_eq_true, decide_eq_true_eq, cond_true, Bool.true_or, and_true] at hoks
        obtain ⟨⟨⟨⟨⟨⟨o1, o2⟩, o3⟩, o5⟩, o6⟩, o7⟩, o8⟩ := hoks
        have hst := pm_rev_take (st := st) (b := b) rfl
        have hpre : PreS s H (pm_Pc D adr cI cS ro H.size (st.take b).reverse mem) ((st.take b).reverse.map (pm_v adr)) := ⟨pm_Pc.blind, fun U hU hW => ⟨rfl, by rw [hU], by rw [hU]; exact hP, va_K.moved hW.alike hK, hD.weaken (fun _ _ _ _ => trivial), hSt.go hS hU hW hFc⟩⟩
        have hstk : st.map (pm_v adr) = (((st.take b).reverse.map (pm_v adr))).reverse ++ (st.drop b).map (pm_v adr) := by
          conv => lhs; rw [hst]
          simp
        rcases k1 with k1 | k1
        · refine pm_behind (va_runS (As := (st.take b).reverse.map (pm_v adr)) (rest := (st.drop b).map (pm_v adr)) ⟨hx, hb, hml, hown, hts⟩ hM
            (va_cwS (J.2.2.2.2.2.2.1) hts (pm_good (fun w hw => by
              simp only [va_wsS, List.mem_append, List.mem_cons, List.not_mem_nil, or_false] at hw
              rcases hw with (rfl | rfl | rfl) | rfl | hw
              · exact pm_mem rfl k1
              · exact pm_mem rfl o3
              · exact pm_mem rfl o2
              · exact pm_mem rfl o1
              · exact hw)) rfl rfl rfl ⟨o5, o6, o8⟩ ⟨Nat.le_trans m1 hfr, Nat.le_trans m2 hlo⟩)
            hpre rfl (by rw [List.length_map]; exact m3) (hL.size.trans rfl) hstk (lv_room hrest) hd ⟨hc, hsl⟩) hS hFc hFc (fun H1 locs1 hP1 hD1 hS1 => ?_)
          rw [hvl]
          exact kk _ _ _ hP1 hD1 hS1 hL
        · refine pm_behind (va_runSN (As := (st.take b).reverse.map (pm_v adr)) (rest := (st.drop b).map (pm_v adr)) (host := "ReadFromRight") ⟨hx, hb, hml, hown, hts⟩ hM
            ⟨va_cnB (J.2.2.2.2.2.2.1) hts (pm_good (fun w hw => by
              rcases List.mem_cons.mp hw with rfl | hw
              · exact pm_mem rfl o1
              · exact hw)) rfl rfl rfl (hSt.2.2 _ k1) (pm_word hts rfl o2) ⟨o5, o6, o8⟩ ⟨Nat.le_trans m1 hfr, Nat.le_trans m2 hlo⟩, pm_word hts rfl o3, trivial⟩
            hpre rfl (by rw [List.length_map]; exact m3) (hL.size.trans rfl) hstk (lv_room hrest) hd ⟨hc, hsl⟩) hS hFc hFc (fun H1 locs1 hP1 hD1 hS1 => ?_)
          rw [hvl]
          exact kk _ _ _ hP1 hD1 hS1 hL
    next => cases hcal
  | _ => exact nomatch (show (none : Option (Nat × pm_S × List Value × List Value)) = some (y', J, As, rest) from hcal)
set_option maxHeartbeats 1000000 in
/-- System.arraycopy, Math.max, min, abs -/
theorem pm_spc_ok {r : pm_R} {ls st ls' st' : List Value} {mem mem' : pm_M} {pc' : Nat} (hsp : pm_isSp r = true) (hs : pm_spc r.2.2.2.2.1 (r.1 + 3) ls st mem = some (pc', ls', st', mem')) (hf1 : 1 ≤ S.2.2.2.2.1) (hl1 : 26 ≤ S.2.2.2.2.2.1)
    (hok : pm_okr S r = true) (C : pm_Cx p R s m args c D adr cI cS ro A S) (hc : cells ≤ R.cells) (hsl : slots ≤ R.slots)
    (kk : pm_Go p l e R s m args below meth c cells slots Q D adr cI cS A S.2.2.1 pc' ls' st' mem') : pm_Go p l e R s m args below meth c cells slots Q D adr cI cS A S.2.2.1 r.1 ls st mem := by
  obtain ⟨pc, ins, a, b, d, pl, w, w2⟩ := r
  obtain ⟨hx, hb, hml, hown, hts, hK, hA, hSt, hfr, hlo⟩ := C
  unfold pm_okr at hok
  simp only [Bool.and_eq_true, decide_eq_true_eq] at hok
  obtain ⟨hd, hlk⟩ := hok
  have hcat : ∀ rest : List Value, ((rest.map (pm_v adr)).map fun v => v.category).sum = (rest.map fun v => v.category).sum := by
    intro rest
    rw [List.map_map]
    have : ((fun v : Value => v.category) ∘ pm_v adr) = fun v => v.category := funext fun v => pm_v_cat adr v
    rw [this]
  intro H locs la hP hD hS hL
  show W p l e R s m args below meth c H locs cells slots Q (F0 m pc la (st.map (pm_v adr)))
  cases ins with
  | invokestatic i =>
    replace hsp : Nat.ble 2 d = true := hsp
    replace hs : pm_spc d (pc + 3) ls st mem = some (pc', ls', st', mem') := hs
    replace hlk : (bif decide (2 ≤ d) then pm_oksp S.1.cls i d pl else (match pm_sig[a]? with
      | some J => J.2.2.2.2.2.2.2.1 && decide (J.2.2.2.2.2.2.1 = b) && decide (a ≠ m_L_law) && (decide (lw_tbl[pl]? = some (Cond.methodLink S.1.cls i J.1)) || decide (Cond.methodLinkNest S.1.cls i J.1 "ReadFromRight" ∈ pm_nests))
      | none => false)) = true := hlk
    rw [decide_eq_true (Nat.le_of_ble_eq_true hsp), cond_true] at hlk
    match d, hs, hlk with
    | 0, _, hlk => cases hlk
    | 1, _, hlk => cases hlk
    | 2, hs, hlk =>
      have hlk : lw_tbl[pl]? = some (Cond.methodLink S.1.cls i arraycopyName) := of_decide_eq_true hlk
      replace hs : pm_cpy (pc + 3) ls st mem = some (pc', ls', st', mem') := hs
      unfold pm_cpy at hs
      split at hs
      next n dp t1 sp t0 rest _ =>
        split at hs
        next n0 n1 h0 h1 =>
          cases hq : (!(decide (sp < 0)) && !(decide (dp < 0)) && !(decide (n < 0)) && decide (sp.toNatClampNeg + n.toNatClampNeg ≤ n0) && decide (dp.toNatClampNeg + n.toNatClampNeg ≤ n1) && decide ((rest.map fun v => v.category).sum ≤ 8)) with
          | false => rw [hq] at hs; cases hs
          | true =>
            rw [hq] at hs
            simp only [cond_true, Option.some.injEq, Prod.mk.injEq] at hs
            obtain ⟨rfl, rfl, rfl, rfl⟩ := hs
            simp only [Bool.and_eq_true, Bool.not_eq_true', decide_eq_false_iff_not, decide_eq_true_eq] at hq
            obtain ⟨⟨⟨⟨⟨q1, q2⟩, q3⟩, q4⟩, q5⟩, q6⟩ := hq
            have e9 := pm_ws_set (adr := adr) (cI := cI) (cS := cS) (mem := mem) (f := va_cpy (mem t0) (mem t1) sp.toNatClampNeg dp.toNatClampNeg n.toNatClampNeg) h1
            have c0 : (pm_ws adr cI cS mem)[t0]? = some (adr t0, .inl (cI, n0, .inl (mem t0))) := pm_ws_get h0
            have c1 : (pm_ws adr cI cS mem)[t1]? = some (adr t1, .inl (cI, n1, .inl (mem t1))) := pm_ws_get h1
            exact va_copyi (ty := .int) (ls := la) hx hb (hml.trans hL.size.symm) hown (pm_word hts rfl hlk) (pm_word hts rfl pm_w_cn) (pm_word hts rfl pm_w_cs) (pm_word hts rfl pm_w_ci) hK hP hD hS t0 t1 0 0 c0 c1 rfl rfl rfl q1 q2 q3 q4 q5 (fun _ _ => rfl) (Nat.le_trans hf1 hfr)
              (by rw [hcat]; have : nativeFrameWords "java/lang/System" "arraycopy" 5 = 7 := by decide +kernel
                  rw [this]; omega) hd (fun H1 locs1 hP1 hD1 hS1 => kk _ _ _ (by rw [← e9]; exact hP1) (by rw [← e9]; exact hD1) hS1 hL)
        next => cases hs
      next => cases hs
    | 3, hs, hlk =>
      have hlk : lw_tbl[pl]? = some (Cond.methodLink S.1.cls i Lib.Math.max.name) := of_decide_eq_true hlk
      replace hs : pm_m2 (fun x y => if x < y then y else x) (pc + 3) ls st mem = some (pc', ls', st', mem') := hs
      unfold pm_m2 at hs
      split at hs
      next y x rest _ =>
        cases hq : decide ((rest.map fun v => v.category).sum ≤ 8) with
        | false => rw [hq] at hs; cases hs
        | true =>
          rw [hq] at hs
          simp only [cond_true, Option.some.injEq, Prod.mk.injEq] at hs
          obtain ⟨rfl, rfl, rfl, rfl⟩ := hs
          have hq := of_decide_eq_true hq
          exact va_mmax (ls := la) hx hb (hml.trans hL.size.symm) hown (pm_word hts rfl hlk) (pm_word hts rfl pm_w_xs) (pm_word hts rfl pm_w_mi) (pm_word hts rfl pm_w_xc) (Nat.le_trans hf1 hfr) (by rw [hcat]; omega) hc hsl hd (kk _ _ _ hP hD hS hL)
      next => cases hs
    | 4, hs, hlk =>
      have hlk : lw_tbl[pl]? = some (Cond.methodLink S.1.cls i Lib.Math.min.name) := of_decide_eq_true hlk
      replace hs : pm_m2 (fun x y => if y < x then y else x) (pc + 3) ls st mem = some (pc', ls', st', mem') := hs
      unfold pm_m2 at hs
      split at hs
      next y x rest _ =>
        cases hq : decide ((rest.map fun v => v.category).sum ≤ 8) with
        | false => rw [hq] at hs; cases hs
        | true =>
          rw [hq] at hs
          simp only [cond_true, Option.some.injEq, Prod.mk.injEq] at hs
          obtain ⟨rfl, rfl, rfl, rfl⟩ := hs
          have hq := of_decide_eq_true hq
          exact va_mmin (ls := la) hx hb (hml.trans hL.size.symm) hown (pm_word hts rfl hlk) (pm_word hts rfl pm_w_ns) (pm_word hts rfl pm_w_mi) (pm_word hts rfl pm_w_nc) (Nat.le_trans hf1 hfr) (by rw [hcat]; omega) hc hsl hd (kk _ _ _ hP hD hS hL)
      next => cases hs
    | 5, hs, hlk =>
      have hlk : lw_tbl[pl]? = some (Cond.methodLink S.1.cls i Lib.Math.abs.name) := of_decide_eq_true hlk
      replace hs : pm_m1 (fun x => if 0 ≤ x then x else 0 - x) (pc + 3) ls st mem = some (pc', ls', st', mem') := hs
      unfold pm_m1 at hs
      split at hs
      next x rest _ =>
        cases hq : decide ((rest.map fun v => v.category).sum ≤ 8) with
        | false => rw [hq] at hs; cases hs
        | true =>
          rw [hq] at hs
          simp only [cond_true, Option.some.injEq, Prod.mk.injEq] at hs
          obtain ⟨rfl, rfl, rfl, rfl⟩ := hs
          have hq := of_decide_eq_true hq
          exact va_mabs (ls := la) hx hb (hml.trans hL.size.symm) hown (pm_word hts rfl hlk) (pm_word hts rfl pm_w_as) (pm_word hts rfl pm_w_mi) (pm_word hts rfl pm_w_ac) (Nat.le_trans hf1 hfr) (by rw [hcat]; omega) hc hsl hd (kk _ _ _ hP hD hS hL)
      next => cases hs
    | k + 6, _, hlk => cases hlk
  | _ => exact nomatch (show false = true from hsp)
theorem pm_row_mem {rs : List pm_R} {pc : Nat} {r : pm_R} (h : pm_row rs pc = some r) : r ∈ rs ∧ r.1 = pc := by
  induction rs with
  | nil => cases h
  | cons q t ih =>
    simp only [pm_row] at h
    cases hq : Nat.beq q.1 pc with
    | true =>
      rw [hq] at h
      cases h
      exact ⟨List.mem_cons_self, Nat.eq_of_beq_eq_true hq⟩
    | false =>
      rw [hq] at h
      obtain ⟨h1, h2⟩ := ih h
      exact ⟨List.mem_cons_of_mem _ h1, h2⟩
theorem pm_ret_end {r : pm_R} {st : List Value} {v : Option Value} (h : pm_ret S r st = some v) (hok : pm_okr S r = true) : pm_End S r.1 v ∧ st = v.toList := by
  obtain ⟨pc, ins, a, b, d, pl, w, w2⟩ := r
  unfold pm_okr at hok
  simp only [Bool.and_eq_true, decide_eq_true_eq] at hok
  obtain ⟨hd, -⟩ := hok
  unfold pm_ret at h
  split at h
  next x h1 h2 =>
    have h1 : ins = .ireturn := h1
    subst h1
    cases h
    exact ⟨Or.inl ⟨x, rfl, hd, Or.inl h2⟩, rfl⟩
  next x h1 h2 =>
    have h1 : ins = .ireturn := h1
    subst h1
    cases hq : (decide (x = 0) || decide (x = 1)) with
    | false => rw [hq] at h; cases h
    | true =>
      rw [hq] at h
      cases h
      simp only [Bool.or_eq_true, decide_eq_true_eq] at hq
      exact ⟨Or.inl ⟨x, rfl, hd, Or.inr ⟨h2, hq⟩⟩, rfl⟩
  next x h1 h2 =>
    have h1 : ins = .lreturn := h1
    subst h1
    cases h
    exact ⟨Or.inr (Or.inl ⟨x, rfl, hd, h2⟩), rfl⟩
  next h1 h2 =>
    have h1 : ins = .return_ := h1
    subst h1
    cases h
    exact ⟨Or.inr (Or.inr ⟨rfl, hd, h2⟩), rfl⟩
  next => cases h
set_option maxHeartbeats 1000000 in
/-- every run of the pure machine is a run of the machine -/
theorem pm_snd (hOK : pm_OK) (ro : pm_RO) : ∀ n : Nat, pm_Snd ro n := by
  intro n
  induction n with
  | zero => intro y pc ls st mem v mem' h; exact nomatch (show (none : Option (Option Value × pm_M)) = some (v, mem') from h)
  | succ n ih =>
    intro y pc ls st mem v mem' h p l e R s m args below meth c cells slots Q D adr cI cS A S hsig C hc hsl kret
    simp only [pm_run] at h
    rw [hsig] at h
    cases hcod : pm_cod[y]? with
    | none => rw [hcod] at h; cases h
    | some rs =>
      rw [hcod] at h
      cases hrow : pm_row rs pc with
      | none => simp only [hrow] at h; cases h
      | some r =>
        obtain ⟨hin, rfl⟩ := pm_row_mem hrow
        have hok := hOK.1 hsig hcod r hin
        simp only [hrow] at h
        split at h
        · split at h
          next pc' ls' st' mem1 hst => exact pm_step_ok hst hok C (ih y pc' ls' st' mem1 v mem' h p l e R s m args below meth c cells slots Q D adr cI cS A S hsig C hc hsl kret)
          next => cases h
        · cases hr : pm_ret S r st with
          | none => rw [hr] at h; cases h
          | some v0 =>
            rw [hr] at h
            simp only [Option.map_some, Option.some.injEq, Prod.mk.injEq] at h
            obtain ⟨rfl, rfl⟩ := h
            obtain ⟨hE, hst⟩ := pm_ret_end hr hok
            intro H locs la hP hD hS hL
            have := kret r.1 la H locs hP hD hS hE
            rw [hst]
            cases v0 <;> exact this
        · cases hsp : pm_isSp r with
          | true =>
            rw [hsp] at h
            simp only [cond_true] at h
            split at h
            next pc' ls' st' mem1 hst =>
              cases hq : (Nat.ble 1 S.2.2.2.2.1 && Nat.ble 26 S.2.2.2.2.2.1) with
              | false => rw [hq] at h; cases h
              | true =>
                rw [hq] at h
                rw [Bool.and_eq_true] at hq
                exact pm_spc_ok hsp hst (Nat.le_of_ble_eq_true hq.1) (Nat.le_of_ble_eq_true hq.2) hok C hc hsl (ih y pc' ls' st' mem1 v mem' h p l e R s m args below meth c cells slots Q D adr cI cS A S hsig C hc hsl kret)
            next => cases h
          | false =>
            rw [hsp] at h
            simp only [cond_false] at h
            split at h
            next y' J As rest hcal =>
              cases hq : pm_may S J As rest with
              | false => rw [hq] at h; cases h
              | true =>
                rw [hq] at h
                simp only [cond_true] at h
                split at h
                next v1 mem1 hrun => exact pm_call_ok hOK ih hcal hq hrun hok C hc hsl (ih y (r.1 + 3) ls _ mem1 v mem' h p l e R s m args below meth c cells slots Q D adr cI cS A S hsig C hc hsl kret)
                next => cases h
            next => cases h
end PMR
end
section
/-! RUNS THAT END: goal first. -/
/-- the run from here ends, and what it gives satisfies Q -/
def pm_Ex (ro : pm_RO) (y pc : Nat) (ls st : List Value) (mem : pm_M) (Q : Option Value → pm_M → Prop) : Prop := ∃ (n : Nat) (v : Option Value) (mem' : pm_M), pm_run ro n y pc ls st mem = some (v, mem') ∧ Q v mem'
theorem pm_run_mono {ro : pm_RO} : ∀ (n : Nat) {y pc : Nat} {ls st : List Value} {mem : pm_M} {r : Option Value × pm_M}, pm_run ro n y pc ls st mem = some r → pm_run ro (n + 1) y pc ls st mem = some r := by
  intro n
  induction n with
  | zero => intro y pc ls st mem r h; cases h
  | succ n ih =>
    intro y pc ls st mem r h
    rw [pm_run] at h ⊢
    cases hsig : pm_sig[y]? with
    | none => simp only [hsig] at h; cases h
    | some S =>
      cases hcod : pm_cod[y]? with
      | none => simp only [hsig, hcod] at h; cases h
      | some rs =>
        simp only [hsig, hcod] at h ⊢
        cases hrow : pm_row rs pc with
        | none => simp only [hrow] at h; cases h
        | some q =>
          simp only [hrow] at h ⊢
          generalize hkd : pm_kind q = kd at h ⊢
          match kd, h with
          | 0, h =>
            simp only at h ⊢
            cases hst : pm_step ro q ls st mem with
            | none => simp only [hst] at h; cases h
            | some g =>
              obtain ⟨pc', ls', st', mem'⟩ := g
              simp only [hst] at h ⊢
              exact ih h
          | 1, h => exact h
          | k + 2, h =>
            simp only at h ⊢
            cases hsp : pm_isSp q with
            | true =>
              simp only [hsp, cond_true] at h ⊢
              cases hst : pm_spc q.2.2.2.2.1 (pc + 3) ls st mem with
              | none => simp only [hst] at h; cases h
              | some g =>
                obtain ⟨pc', ls', st', mem'⟩ := g
                simp only [hst] at h ⊢
                cases hq : (Nat.ble 1 S.2.2.2.2.1 && Nat.ble 26 S.2.2.2.2.2.1) with
                | false => simp only [hq, cond_false] at h; cases h
                | true =>
                  simp only [hq, cond_true] at h ⊢
                  exact ih h
            | false =>
              simp only [hsp, cond_false] at h ⊢
              cases hcal : pm_cal q st with
              | none => simp only [hcal] at h; cases h
              | some g =>
                obtain ⟨y', J, As, rest⟩ := g
                simp only [hcal] at h ⊢
                cases hq : pm_may S J As rest with
                | false => simp only [hq, cond_false] at h; cases h
                | true =>
                  simp only [hq, cond_true] at h ⊢
                  cases hr : pm_run ro n y' 0 (pm_ent J.2.2.1 As) [] mem with
                  | none => simp only [hr] at h; cases h
                  | some g =>
                    obtain ⟨v, mem'⟩ := g
                    simp only [hr] at h
                    simp only [ih hr]
                    exact ih h
theorem pm_run_le {ro : pm_RO} {n k : Nat} (hk : n ≤ k) {y pc : Nat} {ls st : List Value} {mem : pm_M} {r : Option Value × pm_M} (h : pm_run ro n y pc ls st mem = some r) : pm_run ro k y pc ls st mem = some r := by
  induction hk with
  | refl => exact h
  | step _ ih => exact pm_run_mono _ ih
theorem pm_Ex.imp {ro : pm_RO} {y pc : Nat} {ls st : List Value} {mem : pm_M} {Q Q' : Option Value → pm_M → Prop} (h : pm_Ex ro y pc ls st mem Q) (hQ : ∀ v m, Q v m → Q' v m) : pm_Ex ro y pc ls st mem Q' := by
  obtain ⟨n, v, m, h1, h2⟩ := h
  exact ⟨n, v, m, h1, hQ v m h2⟩
/-- one instruction of these rows -/
def pm_one (ro : pm_RO) (rs : List pm_R) (pc : Nat) (ls st : List Value) (mem : pm_M) : pm_O := match pm_row rs pc with
  | some r => (match pm_kind r with
    | 0 => pm_step ro r ls st mem
    | _ => none)
  | none => none
def pm_many (ro : pm_RO) (rs : List pm_R) : Nat → Nat → List Value → List Value → pm_M → pm_O
  | 0, pc, ls, st, mem => some (pc, ls, st, mem)
  | k + 1, pc, ls, st, mem => match pm_one ro rs pc ls st mem with
    | some (pc', ls', st', mem') => pm_many ro rs k pc' ls' st' mem'
    | none => none
section PEX
variable {ro : pm_RO} {y : Nat} {S : pm_S} {rs : List pm_R} {pc pc' : Nat} {ls ls' st st' : List Value} {mem mem' : pm_M} {Q : Option Value → pm_M → Prop}
theorem ex_one (h1 : pm_sig[y]? = some S) (h2 : pm_cod[y]? = some rs) (h : pm_one ro rs pc ls st mem = some (pc', ls', st', mem')) (k : pm_Ex ro y pc' ls' st' mem' Q) : pm_Ex ro y pc ls st mem Q := by
  obtain ⟨n, v, m, a, b⟩ := k
  refine ⟨n + 1, v, m, ?_, b⟩
  rw [pm_run]
  simp only [h1, h2]
  unfold pm_one at h
  cases hr : pm_row rs pc with
  | none => rw [hr] at h; cases h
  | some r =>
    simp only [hr] at h ⊢
    split at h
    next hk => simp only [hk, h]; exact a
    next => cases h
theorem ex_many (h1 : pm_sig[y]? = some S) (h2 : pm_cod[y]? = some rs) (n : Nat) (h : pm_many ro rs n pc ls st mem = some (pc', ls', st', mem')) (k : pm_Ex ro y pc' ls' st' mem' Q) : pm_Ex ro y pc ls st mem Q := by
  induction n generalizing pc ls st mem with
  | zero =>
    simp only [pm_many, Option.some.injEq, Prod.mk.injEq] at h
    obtain ⟨rfl, rfl, rfl, rfl⟩ := h
    exact k
  | succ n ih =>
    simp only [pm_many] at h
    split at h
    next a b c d hone => exact ex_one h1 h2 hone (ih h)
    next => cases h
/-- an instruction with something to show: an index, a divisor -/
theorem ex_grd (h1 : pm_sig[y]? = some S) (h2 : pm_cod[y]? = some rs) {b : Bool} (h : pm_one ro rs pc ls st mem = bif b then some (pc', ls', st', mem') else none) (hb : b = true) (k : pm_Ex ro y pc' ls' st' mem' Q) : pm_Ex ro y pc ls st mem Q := by
  rw [hb, cond_true] at h
  exact ex_one h1 h2 h k
/-- a branch -/
theorem ex_br (h1 : pm_sig[y]? = some S) (h2 : pm_cod[y]? = some rs) {P : Prop} [Decidable P] {a b : Nat} (h : pm_one ro rs pc ls st mem = some (bif decide P then a else b, ls', st', mem')) (ht : P → pm_Ex ro y a ls' st' mem' Q) (hf : ¬ P → pm_Ex ro y b ls' st' mem' Q) : pm_Ex ro y pc ls st mem Q := by
  by_cases hP : P
  · rw [decide_eq_true hP, cond_true] at h
    exact ex_one h1 h2 h (ht hP)
  · rw [decide_eq_false hP, cond_false] at h
    exact ex_one h1 h2 h (hf hP)
theorem ex_ret (h1 : pm_sig[y]? = some S) (h2 : pm_cod[y]? = some rs) {r : pm_R} (hr : pm_row rs pc = some r) (hk : pm_kind r = 1) {v : Option Value} (hv : pm_ret S r st = some v) (k : Q v mem) : pm_Ex ro y pc ls st mem Q := by
  refine ⟨1, v, mem, ?_, k⟩
  rw [pm_run]
  simp only [h1, h2, hr, hk, hv]
  rfl
/-- a boolean's return -/
theorem ex_retz (h1 : pm_sig[y]? = some S) (h2 : pm_cod[y]? = some rs) {r : pm_R} (hr : pm_row rs pc = some r) (hk : pm_kind r = 1) {x : Int32} (hv : pm_ret S r st = bif decide (x = 0) || decide (x = 1) then some (some (.int x)) else none) (hx : x = 0 ∨ x = 1) (k : Q (some (.int x)) mem) : pm_Ex ro y pc ls st mem Q := by
  refine ex_ret h1 h2 hr hk (v := some (.int x)) ?_ k
  rw [hv]
  rcases hx with rfl | rfl <;> rfl
theorem ex_call (h1 : pm_sig[y]? = some S) (h2 : pm_cod[y]? = some rs) {r : pm_R} (hr : pm_row rs pc = some r) (hk : pm_kind r = 2) (hsp : pm_isSp r = false) {y' : Nat} {J : pm_S} {As rest ent : List Value} (hc : pm_cal r st = some (y', J, As, rest)) (hm : pm_may S J As rest = true) (he : pm_ent J.2.2.1 As = ent)
    (k : pm_Ex ro y' 0 ent [] mem (fun v m => pm_Ex ro y (pc + 3) ls (v.toList ++ rest) m Q)) : pm_Ex ro y pc ls st mem Q := by
  obtain ⟨n1, v1, m1, a1, n2, v, m, a2, b⟩ := k
  refine ⟨(n1 + n2) + 1, v, m, ?_, b⟩
  subst he
  rw [pm_run]
  simp only [h1, h2, hr, hk, hsp, cond_false, hc, hm, cond_true, pm_run_le (Nat.le_add_right n1 n2) a1]
  exact pm_run_le (Nat.le_add_left n2 n1) a2
theorem ex_spc (h1 : pm_sig[y]? = some S) (h2 : pm_cod[y]? = some rs) {r : pm_R} (hr : pm_row rs pc = some r) (hk : pm_kind r = 2) (hsp : pm_isSp r = true) (h : pm_spc r.2.2.2.2.1 (pc + 3) ls st mem = some (pc', ls', st', mem')) (hf : (Nat.ble 1 S.2.2.2.2.1 && Nat.ble 26 S.2.2.2.2.2.1) = true) (k : pm_Ex ro y pc' ls' st' mem' Q) : pm_Ex ro y pc ls st mem Q := by
  obtain ⟨n, v, m, a, b⟩ := k
  refine ⟨n + 1, v, m, ?_, b⟩
  rw [pm_run]
  simp only [h1, h2, hr, hk, hsp, cond_true, h, hf]
  exact a
end PEX
end
section
/-! small things for the printed blocks -/
def zb (P : Prop) [Decidable P] : Int32 := if P then 1 else 0
theorem zb_pos {P : Prop} [Decidable P] (h : P) : zb P = 1 := if_pos h
theorem zb_neg {P : Prop} [Decidable P] (h : ¬ P) : zb P = 0 := if_neg h
theorem zb_npos {P : Prop} [Decidable P] (h : P) : zb (¬ P) = 0 := if_neg (not_not_intro h)
theorem zb_nneg {P : Prop} [Decidable P] (h : ¬ P) : zb (¬ P) = 1 := if_pos h
theorem zb0 {P : Prop} [Decidable P] (h : zb P = 0) : ¬ P := fun q => by rw [zb_pos q] at h; exact absurd h (by decide)
theorem zb1 {P : Prop} [Decidable P] (h : ¬ zb P = 0) : P := by
  by_cases q : P
  · exact q
  · exact absurd (zb_neg q) h
theorem zb0n {P : Prop} [Decidable P] (h : ¬ ¬ zb P = 0) : ¬ P := zb0 (Decidable.of_not_not h)
theorem zb_01 (P : Prop) [Decidable P] : zb P = 0 ∨ zb P = 1 := by
  by_cases q : P
  · exact Or.inr (zb_pos q)
  · exact Or.inl (zb_neg q)
theorem zb_iff {P R : Prop} [Decidable P] [Decidable R] (h : P ↔ R) : zb P = zb R := by
  by_cases q : P
  · rw [zb_pos q, zb_pos (h.mp q)]
  · rw [zb_neg q, zb_neg (fun z => q (h.mpr z))]
theorem zbA_t {P Z : Prop} [Decidable P] [Decidable Z] (h : P) : zb (P ∧ Z) = zb Z := zb_iff ⟨fun q => q.2, fun q => ⟨h, q⟩⟩
theorem zbA_f {P Z : Prop} [Decidable P] [Decidable Z] (h : ¬ P) : zb (P ∧ Z) = 0 := zb_neg (fun q => h q.1)
theorem zbN_t {P Z : Prop} [Decidable P] [Decidable Z] (h : P) : zb (¬ P ∧ Z) = 0 := zb_neg (fun q => q.1 h)
theorem zbN_f {P Z : Prop} [Decidable P] [Decidable Z] (h : ¬ P) : zb (¬ P ∧ Z) = zb Z := zb_iff ⟨fun q => q.2, fun q => ⟨h, q⟩⟩
theorem zbO_t {P Z : Prop} [Decidable P] [Decidable Z] (h : P) : zb (P ∨ Z) = 1 := zb_pos (Or.inl h)
theorem zbO_f {P Z : Prop} [Decidable P] [Decidable Z] (h : ¬ P) : zb (P ∨ Z) = zb Z := zb_iff ⟨fun q => q.resolve_left h, Or.inr⟩
theorem zbI_t {P Z : Prop} [Decidable P] [Decidable Z] (h : P) : zb (¬ P ∨ Z) = zb Z := zb_iff ⟨fun q => q.resolve_left (not_not_intro h), Or.inr⟩
theorem zbI_f {P Z : Prop} [Decidable P] [Decidable Z] (h : ¬ P) : zb (¬ P ∨ Z) = 1 := zb_pos (Or.inl h)
theorem pm_nz {y : Int32} (h : ¬ y = 0) : (!(decide (y = 0))) = true := by simp [h]
theorem pm_nzl {y : Int64} (h : ¬ y = 0) : (!(decide (y = 0))) = true := by simp [h]
theorem pm_phi1 {f : Int32 → Prop} {a b : Int32} (e : a = b) (k : f a) : f b := e ▸ k
theorem pm_phi2 {f : Int32 → Int32 → Prop} {a b a' b' : Int32} (e : a = b) (e' : a' = b') (k : f a a') : f b b' := by subst e; subst e'; exact k
theorem pm_phi3 {f : Int32 → Int32 → Int32 → Prop} {a b a' b' a2 b2 : Int32} (e : a = b) (e' : a' = b') (e2 : a2 = b2) (k : f a a' a2) : f b b' b2 := by subst e; subst e'; subst e2; exact k
theorem pm_phi4 {f : Int32 → Int32 → Int32 → Int32 → Prop} {a b a' b' a2 b2 a3 b3 : Int32} (e : a = b) (e' : a' = b') (e2 : a2 = b2) (e3 : a3 = b3) (k : f a a' a2 a3) : f b b' b2 b3 := by subst e; subst e'; subst e2; subst e3; exact k
section PSW
variable {ro : pm_RO} {y : Nat} {S : pm_S} {rs : List pm_R} {pc : Nat} {ls rest : List Value} {mem : pm_M} {Q : Option Value → pm_M → Prop}
theorem ex_tswd (h1 : pm_sig[y]? = some S) (h2 : pm_cod[y]? = some rs) {dflt lo hi : Int} {offs : Array Int} {a0 b c pl : Nat} {w : Int32} {w2 : Int64} {x : Int32} (hr : pm_row rs pc = some (pc, .tableswitch dflt lo hi offs, a0, b, c, pl, w, w2)) {a : Nat} (ht : (pc : Int) + dflt = (a : Int)) (h : x.toInt < lo ∨ hi < x.toInt) (k : pm_Ex ro y a ls rest mem Q) : pm_Ex ro y pc ls (.int x :: rest) mem Q := by
  refine ex_one (pc' := a) (ls' := ls) (st' := rest) (mem' := mem) h1 h2 ?_ k
  unfold pm_one
  rw [hr]
  show pm_tsw pc dflt lo hi offs ls (.int x :: rest) mem = _
  unfold pm_tsw
  have e1 : (decide (x.toInt < lo) || decide (hi < x.toInt)) = true := by simpa using h
  simp only [e1, cond_true, pm_tgt, ht]
  simp
theorem ex_lswd (h1 : pm_sig[y]? = some S) (h2 : pm_cod[y]? = some rs) {dflt : Int} {ps : Array (Int × Int)} {a0 b c pl : Nat} {w : Int32} {w2 : Int64} {x : Int32} (hr : pm_row rs pc = some (pc, .lookupswitch dflt ps, a0, b, c, pl, w, w2)) (hs : (ps.toList.zip (ps.toList.drop 1)).all (fun (a, next) => a.1 < next.1) = true) {a : Nat} (ht : (pc : Int) + dflt = (a : Int)) (h : Op.lookupswitch.offset ps.toList dflt x.toInt = dflt) (k : pm_Ex ro y a ls rest mem Q) : pm_Ex ro y pc ls (.int x :: rest) mem Q := by
  refine ex_one (pc' := a) (ls' := ls) (st' := rest) (mem' := mem) h1 h2 ?_ k
  unfold pm_one
  rw [hr]
  show pm_lsw pc dflt ps ls (.int x :: rest) mem = _
  unfold pm_lsw
  simp only [hs, cond_true, pm_tgt, h, ht]
  simp
end PSW
theorem pm_out3 {x : Int32} (h0 : ¬ x = 0) (h1 : ¬ x = 1) (h2 : ¬ x = 2) : x.toInt < 0 ∨ 2 < x.toInt := by
  have g0 := lv_neT (a := 0) h0 (by decide)
  have g1 := lv_neT (a := 1) h1 (by decide)
  have g2 := lv_neT (a := 2) h2 (by decide)
  omega
theorem pm_out4 {x : Int32} (h0 : ¬ x = 0) (h1 : ¬ x = 1) (h2 : ¬ x = 2) (h3 : ¬ x = 3) : x.toInt < 0 ∨ 3 < x.toInt := by
  have g0 := lv_neT (a := 0) h0 (by decide)
  have g1 := lv_neT (a := 1) h1 (by decide)
  have g2 := lv_neT (a := 2) h2 (by decide)
  have g3 := lv_neT (a := 3) h3 (by decide)
  omega
theorem pm_out9 {x : Int32} (h0 : ¬ x = 0) (h1 : ¬ x = 1) (h2 : ¬ x = 2) (h3 : ¬ x = 3) (h4 : ¬ x = 4) (h5 : ¬ x = 5) (h6 : ¬ x = 6) (h7 : ¬ x = 7) (h8 : ¬ x = 8) : x.toInt < 0 ∨ 8 < x.toInt := by
  have g0 := lv_neT (a := 0) h0 (by decide)
  have g1 := lv_neT (a := 1) h1 (by decide)
  have g2 := lv_neT (a := 2) h2 (by decide)
  have g3 := lv_neT (a := 3) h3 (by decide)
  have g4 := lv_neT (a := 4) h4 (by decide)
  have g5 := lv_neT (a := 5) h5 (by decide)
  have g6 := lv_neT (a := 6) h6 (by decide)
  have g7 := lv_neT (a := 7) h7 (by decide)
  have g8 := lv_neT (a := 8) h8 (by decide)
  omega
theorem pm_out27 {x : Int32} (h0 : ¬ x = 0) (h1 : ¬ x = 1) (h2 : ¬ x = 2) (h3 : ¬ x = 3) (h4 : ¬ x = 4) (h5 : ¬ x = 5) (h6 : ¬ x = 6) (h7 : ¬ x = 7) (h8 : ¬ x = 8) (h9 : ¬ x = 9) (h10 : ¬ x = 10) (h11 : ¬ x = 11) (h12 : ¬ x = 12) (h13 : ¬ x = 13) (h14 : ¬ x = 14) (h15 : ¬ x = 15) (h16 : ¬ x = 16) (h17 : ¬ x = 17) (h18 : ¬ x = 18) (h19 : ¬ x = 19) (h20 : ¬ x = 20) (h21 : ¬ x = 21) (h22 : ¬ x = 22) (h23 : ¬ x = 23) (h24 : ¬ x = 24) (h25 : ¬ x = 25) (h26 : ¬ x = 26) : x.toInt < 0 ∨ 26 < x.toInt := by
  have g0 := lv_neT (a := 0) h0 (by decide)
  have g1 := lv_neT (a := 1) h1 (by decide)
  have g2 := lv_neT (a := 2) h2 (by decide)
  have g3 := lv_neT (a := 3) h3 (by decide)
  have g4 := lv_neT (a := 4) h4 (by decide)
  have g5 := lv_neT (a := 5) h5 (by decide)
  have g6 := lv_neT (a := 6) h6 (by decide)
  have g7 := lv_neT (a := 7) h7 (by decide)
  have g8 := lv_neT (a := 8) h8 (by decide)
  have g9 := lv_neT (a := 9) h9 (by decide)
  have g10 := lv_neT (a := 10) h10 (by decide)
  have g11 := lv_neT (a := 11) h11 (by decide)
  have g12 := lv_neT (a := 12) h12 (by decide)
  have g13 := lv_neT (a := 13) h13 (by decide)
  have g14 := lv_neT (a := 14) h14 (by decide)
  have g15 := lv_neT (a := 15) h15 (by decide)
  have g16 := lv_neT (a := 16) h16 (by decide)
  have g17 := lv_neT (a := 17) h17 (by decide)
  have g18 := lv_neT (a := 18) h18 (by decide)
  have g19 := lv_neT (a := 19) h19 (by decide)
  have g20 := lv_neT (a := 20) h20 (by decide)
  have g21 := lv_neT (a := 21) h21 (by decide)
  have g22 := lv_neT (a := 22) h22 (by decide)
  have g23 := lv_neT (a := 23) h23 (by decide)
  have g24 := lv_neT (a := 24) h24 (by decide)
  have g25 := lv_neT (a := 25) h25 (by decide)
  have g26 := lv_neT (a := 26) h26 (by decide)
  omega
theorem i64_le {a b : Int32} : a.toInt64 ≤ b.toInt64 ↔ a ≤ b := by
  rw [Int64.le_iff_toInt_le, Int32.le_iff_toInt_le, Int32.toInt_toInt64, Int32.toInt_toInt64]
theorem i64_lt {a b : Int32} : a.toInt64 < b.toInt64 ↔ a < b := by
  rw [Int64.lt_iff_toInt_lt, Int32.lt_iff_toInt_lt, Int32.toInt_toInt64, Int32.toInt_toInt64]
end
section
set_option maxRecDepth 20000 in
theorem bk_X10_in_0 {ro : pm_RO} {Q : Option Value → pm_M → Prop} {mem : pm_M} {v lo hi : Int64} (k : Q (some (.int (zb (¬ ((lg_cmp v lo) < 0) ∧ (¬ (0 < (lg_cmp v hi))))))) mem) : pm_Ex ro m_X10_in 0 [.long v, .null, .long lo, .null, .long hi, .null] [] mem Q := by
  have hS : pm_sig[m_X10_in]? = some _ := rfl
  have hC : pm_cod[m_X10_in]? = some _ := rfl
  refine ex_many (pc' := 3) (ls' := [.long v, .null, .long lo, .null, .long hi, .null]) (st' := [.int (lg_cmp v lo)]) (mem' := mem) hS hC 3 rfl ?_
  have kp2 : pm_Ex ro m_X10_in 18 [.long v, .null, .long lo, .null, .long hi, .null] [.int (zb (¬ ((lg_cmp v lo) < 0) ∧ (¬ (0 < (lg_cmp v hi)))))] mem Q := by
    exact ex_retz hS hC rfl rfl rfl (zb_01 _) k
  refine ex_br (P := (lg_cmp v lo) < 0) (a := 17) (b := 6) (ls' := [.long v, .null, .long lo, .null, .long hi, .null]) (st' := []) (mem' := mem) hS hC rfl (fun h => ?_) (fun h => ?_)
  · have kp2a : pm_Ex ro m_X10_in 18 [.long v, .null, .long lo, .null, .long hi, .null] [.int 0] mem Q := pm_phi1 (f := fun z0 => pm_Ex ro m_X10_in 18 [.long v, .null, .long lo, .null, .long hi, .null] [.int z0] mem Q) (zbN_t (h)) kp2
    refine ex_many (pc' := 18) (ls' := [.long v, .null, .long lo, .null, .long hi, .null]) (st' := [.int 0]) (mem' := mem) hS hC 1 rfl ?_
    exact kp2a
  · have kp2b : pm_Ex ro m_X10_in 18 [.long v, .null, .long lo, .null, .long hi, .null] [.int (zb (¬ (0 < (lg_cmp v hi))))] mem Q := pm_phi1 (f := fun z0 => pm_Ex ro m_X10_in 18 [.long v, .null, .long lo, .null, .long hi, .null] [.int z0] mem Q) (zbN_f (h)) kp2
    have kp1 : pm_Ex ro m_X10_in 18 [.long v, .null, .long lo, .null, .long hi, .null] [.int (zb (¬ (0 < (lg_cmp v hi))))] mem Q := by
      exact kp2b
    refine ex_many (pc' := 10) (ls' := [.long v, .null, .long lo, .null, .long hi, .null]) (st' := [.int (lg_cmp v hi)]) (mem' := mem) hS hC 3 rfl ?_
    refine ex_br (P := 0 < (lg_cmp v hi)) (a := 17) (b := 13) (ls' := [.long v, .null, .long lo, .null, .long hi, .null]) (st' := []) (mem' := mem) hS hC rfl (fun h => ?_) (fun h => ?_)
    · have kp1a : pm_Ex ro m_X10_in 18 [.long v, .null, .long lo, .null, .long hi, .null] [.int 0] mem Q := pm_phi1 (f := fun z0 => pm_Ex ro m_X10_in 18 [.long v, .null, .long lo, .null, .long hi, .null] [.int z0] mem Q) (zb_npos (h)) kp1
      refine ex_many (pc' := 18) (ls' := [.long v, .null, .long lo, .null, .long hi, .null]) (st' := [.int 0]) (mem' := mem) hS hC 1 rfl ?_
      exact kp1a
    · have kp1b : pm_Ex ro m_X10_in 18 [.long v, .null, .long lo, .null, .long hi, .null] [.int 1] mem Q := pm_phi1 (f := fun z0 => pm_Ex ro m_X10_in 18 [.long v, .null, .long lo, .null, .long hi, .null] [.int z0] mem Q) (zb_nneg (h)) kp1
      refine ex_many (pc' := 18) (ls' := [.long v, .null, .long lo, .null, .long hi, .null]) (st' := [.int 1]) (mem' := mem) hS hC 2 rfl ?_
      exact kp1b

theorem sp_in32 {ro : pm_RO} {Q : Option Value → pm_M → Prop} {mem : pm_M} {v lo hi : Int32} {lo' hi' : Int64} (h1 : lo' = lo.toInt64) (h2 : hi' = hi.toInt64) (k : Q (some (.int (zb (lo ≤ v ∧ v ≤ hi)))) mem) : pm_Ex ro m_X10_in 0 [.long v.toInt64, .null, .long lo', .null, .long hi', .null] [] mem Q := by
  subst h1; subst h2
  refine bk_X10_in_0 ?_
  rw [show (zb (¬ (lg_cmp v.toInt64 lo.toInt64 < 0) ∧ (¬ (0 < lg_cmp v.toInt64 hi.toInt64)))) = zb (lo ≤ v ∧ v ≤ hi) from zb_iff (by
    rw [lg_cmp_lt, lg_cmp_gt, i64_lt, i64_lt, Int32.lt_iff_toInt_lt, Int32.lt_iff_toInt_lt, Int32.le_iff_toInt_le, Int32.le_iff_toInt_le]; omega)]
  exact k

set_option maxRecDepth 20000 in
theorem bk_X10_isTwo_0 {ro : pm_RO} {Q : Option Value → pm_M → Prop} {mem : pm_M} {a1 : Int32} (k : Q (some (.int (zb (0 ≤ a1 ∧ a1 ≤ 1)))) mem) : pm_Ex ro m_X10_isTwo 0 [.int a1] [] mem Q := by
  have hS : pm_sig[m_X10_isTwo]? = some _ := rfl
  have hC : pm_cod[m_X10_isTwo]? = some _ := rfl
  refine ex_many (pc' := 4) (ls' := [.int a1]) (st' := [.long 1, .long 0, .long a1.toInt64]) (mem' := mem) hS hC 4 rfl ?_
  refine ex_call (y' := m_X10_in) (rest := []) (ent := [.long a1.toInt64, .null, .long 0, .null, .long 1, .null]) hS hC rfl rfl rfl rfl rfl rfl ?_
  refine sp_in32 (v := a1) (lo := 0) (hi := 1) (by decide) (by decide) ?_
  show pm_Ex ro m_X10_isTwo 7 [.int a1] [.int (zb (0 ≤ a1 ∧ a1 ≤ 1))] mem Q
  exact ex_retz hS hC rfl rfl rfl (zb_01 _) k

set_option maxRecDepth 20000 in
theorem bk_X10_isIn_0 {ro : pm_RO} {Q : Option Value → pm_M → Prop} {mem : pm_M} {a1 a2 : Int32} (k : Q (some (.int (zb (¬ (¬ ((a1 >>> (a2 &&& 31)) &&& 1) = 1))))) mem) : pm_Ex ro m_X10_isIn 0 [.int a1, .int a2] [] mem Q := by
  have hS : pm_sig[m_X10_isIn]? = some _ := rfl
  have hC : pm_cod[m_X10_isIn]? = some _ := rfl
  refine ex_many (pc' := 6) (ls' := [.int a1, .int a2]) (st' := [.int 1, .int ((a1 >>> (a2 &&& 31)) &&& 1)]) (mem' := mem) hS hC 6 rfl ?_
  have kp3 : pm_Ex ro m_X10_isIn 14 [.int a1, .int a2] [.int (zb (¬ (¬ ((a1 >>> (a2 &&& 31)) &&& 1) = 1)))] mem Q := by
    exact ex_retz hS hC rfl rfl rfl (zb_01 _) k
  refine ex_br (P := ¬ ((a1 >>> (a2 &&& 31)) &&& 1) = 1) (a := 13) (b := 9) (ls' := [.int a1, .int a2]) (st' := []) (mem' := mem) hS hC rfl (fun h => ?_) (fun h => ?_)
  · have kp3a : pm_Ex ro m_X10_isIn 14 [.int a1, .int a2] [.int 0] mem Q := pm_phi1 (f := fun z0 => pm_Ex ro m_X10_isIn 14 [.int a1, .int a2] [.int z0] mem Q) (zb_npos (h)) kp3
    refine ex_many (pc' := 14) (ls' := [.int a1, .int a2]) (st' := [.int 0]) (mem' := mem) hS hC 1 rfl ?_
    exact kp3a
  · have kp3b : pm_Ex ro m_X10_isIn 14 [.int a1, .int a2] [.int 1] mem Q := pm_phi1 (f := fun z0 => pm_Ex ro m_X10_isIn 14 [.int a1, .int a2] [.int z0] mem Q) (zb_nneg (h)) kp3
    refine ex_many (pc' := 14) (ls' := [.int a1, .int a2]) (st' := [.int 1]) (mem' := mem) hS hC 2 rfl ?_
    exact kp3b

set_option maxRecDepth 20000 in
theorem bk_X10_met_0 {ro : pm_RO} {Q : Option Value → pm_M → Prop} {mem : pm_M} {a1 : Int32} (k : Q (some (.int ((-10) - a1))) (pm_up mem 33 4 a1)) : pm_Ex ro m_X10_met 0 [.ref 33, .int a1] [] mem Q := by
  have hS : pm_sig[m_X10_met]? = some _ := rfl
  have hC : pm_cod[m_X10_met]? = some _ := rfl
  refine ex_many (pc' := 9) (ls' := [.ref 33, .int a1]) (st' := [.int ((-10) - a1)]) (mem' := pm_up mem 33 4 a1) hS hC 6 rfl ?_
  exact ex_ret (v := (some (.int ((-10) - a1)))) hS hC rfl rfl rfl k

set_option maxRecDepth 20000 in
theorem bk_X10_isSheet_0 {ro : pm_RO} {Q : Option Value → pm_M → Prop} {mem : pm_M} {a1 : Int32} (k : Q (some (.int (zb (0 ≤ a1 ∧ a1 ≤ 3)))) mem) : pm_Ex ro m_X10_isSheet 0 [.int a1] [] mem Q := by
  have hS : pm_sig[m_X10_isSheet]? = some _ := rfl
  have hC : pm_cod[m_X10_isSheet]? = some _ := rfl
  refine ex_many (pc' := 6) (ls' := [.int a1]) (st' := [.long 3, .long 0, .long a1.toInt64]) (mem' := mem) hS hC 4 rfl ?_
  refine ex_call (y' := m_X10_in) (rest := []) (ent := [.long a1.toInt64, .null, .long 0, .null, .long 3, .null]) hS hC rfl rfl rfl rfl rfl rfl ?_
  refine sp_in32 (v := a1) (lo := 0) (hi := 3) (by decide) (by decide) ?_
  show pm_Ex ro m_X10_isSheet 9 [.int a1] [.int (zb (0 ≤ a1 ∧ a1 ≤ 3))] mem Q
  exact ex_retz hS hC rfl rfl rfl (zb_01 _) k

set_option maxRecDepth 20000 in
theorem bk_X10_isPartner_0 {ro : pm_RO} {Q : Option Value → pm_M → Prop} {mem : pm_M} {a1 : Int32} (k : Q (some (.int (zb (0 ≤ a1 ∧ a1 ≤ 3)))) mem) : pm_Ex ro m_X10_isPartner 0 [.int a1] [] mem Q := by
  have hS : pm_sig[m_X10_isPartner]? = some _ := rfl
  have hC : pm_cod[m_X10_isPartner]? = some _ := rfl
  refine ex_many (pc' := 6) (ls' := [.int a1]) (st' := [.long 3, .long 0, .long a1.toInt64]) (mem' := mem) hS hC 4 rfl ?_
  refine ex_call (y' := m_X10_in) (rest := []) (ent := [.long a1.toInt64, .null, .long 0, .null, .long 3, .null]) hS hC rfl rfl rfl rfl rfl rfl ?_
  refine sp_in32 (v := a1) (lo := 0) (hi := 3) (by decide) (by decide) ?_
  show pm_Ex ro m_X10_isPartner 9 [.int a1] [.int (zb (0 ≤ a1 ∧ a1 ≤ 3))] mem Q
  exact ex_retz hS hC rfl rfl rfl (zb_01 _) k

set_option maxRecDepth 20000 in
theorem bk_X10_isNumber_0 {ro : pm_RO} {Q : Option Value → pm_M → Prop} {mem : pm_M} {a1 : Int32} (k : Q (some (.int (zb (0 ≤ a1 ∧ a1 ≤ 9999)))) mem) : pm_Ex ro m_X10_isNumber 0 [.int a1] [] mem Q := by
  have hS : pm_sig[m_X10_isNumber]? = some _ := rfl
  have hC : pm_cod[m_X10_isNumber]? = some _ := rfl
  refine ex_many (pc' := 6) (ls' := [.int a1]) (st' := [.long 9999, .long 0, .long a1.toInt64]) (mem' := mem) hS hC 4 rfl ?_
  refine ex_call (y' := m_X10_in) (rest := []) (ent := [.long a1.toInt64, .null, .long 0, .null, .long 9999, .null]) hS hC rfl rfl rfl rfl rfl rfl ?_
  refine sp_in32 (v := a1) (lo := 0) (hi := 9999) (by decide) (by decide) ?_
  show pm_Ex ro m_X10_isNumber 9 [.int a1] [.int (zb (0 ≤ a1 ∧ a1 ≤ 9999))] mem Q
  exact ex_retz hS hC rfl rfl rfl (zb_01 _) k

set_option maxRecDepth 20000 in
theorem bk_X10_cut_0 {ro : pm_RO} {Q : Option Value → pm_M → Prop} {mem : pm_M} {a1 a2 : Int32} (k : Q (some (.int (if ¬ a1 = 0 then (if ¬ a1 = 1 then a2 else a2.toInt16.toInt32 : Int32) else a2.toInt8.toInt32 : Int32))) mem) : pm_Ex ro m_X10_cut 0 [.int a1, .int a2] [] mem Q := by
  have hS : pm_sig[m_X10_cut]? = some _ := rfl
  have hC : pm_cod[m_X10_cut]? = some _ := rfl
  refine ex_many (pc' := 1) (ls' := [.int a1, .int a2]) (st' := [.int a1]) (mem' := mem) hS hC 1 rfl ?_
  have kp6 : pm_Ex ro m_X10_cut 20 [.int a1, .int a2] [.int (if ¬ a1 = 0 then (if ¬ a1 = 1 then a2 else a2.toInt16.toInt32 : Int32) else a2.toInt8.toInt32 : Int32)] mem Q := by
    exact ex_ret (v := (some (.int (if ¬ a1 = 0 then (if ¬ a1 = 1 then a2 else a2.toInt16.toInt32 : Int32) else a2.toInt8.toInt32 : Int32)))) hS hC rfl rfl rfl k
  refine ex_br (P := ¬ a1 = 0) (a := 9) (b := 4) (ls' := [.int a1, .int a2]) (st' := []) (mem' := mem) hS hC rfl (fun h => ?_) (fun h => ?_)
  · have kp6a : pm_Ex ro m_X10_cut 20 [.int a1, .int a2] [.int (if ¬ a1 = 1 then a2 else a2.toInt16.toInt32 : Int32)] mem Q := pm_phi1 (f := fun z0 => pm_Ex ro m_X10_cut 20 [.int a1, .int a2] [.int z0] mem Q) (if_pos (h)) kp6
    have kp5 : pm_Ex ro m_X10_cut 20 [.int a1, .int a2] [.int (if ¬ a1 = 1 then a2 else a2.toInt16.toInt32 : Int32)] mem Q := by
      exact kp6a
    refine ex_many (pc' := 11) (ls' := [.int a1, .int a2]) (st' := [.int 1, .int a1]) (mem' := mem) hS hC 2 rfl ?_
    refine ex_br (P := ¬ a1 = 1) (a := 19) (b := 14) (ls' := [.int a1, .int a2]) (st' := []) (mem' := mem) hS hC rfl (fun h => ?_) (fun h => ?_)
    · have kp5a : pm_Ex ro m_X10_cut 20 [.int a1, .int a2] [.int a2] mem Q := pm_phi1 (f := fun z0 => pm_Ex ro m_X10_cut 20 [.int a1, .int a2] [.int z0] mem Q) (if_pos (h)) kp5
      refine ex_many (pc' := 20) (ls' := [.int a1, .int a2]) (st' := [.int a2]) (mem' := mem) hS hC 1 rfl ?_
      exact kp5a
    · have kp5b : pm_Ex ro m_X10_cut 20 [.int a1, .int a2] [.int a2.toInt16.toInt32] mem Q := pm_phi1 (f := fun z0 => pm_Ex ro m_X10_cut 20 [.int a1, .int a2] [.int z0] mem Q) (if_neg (h)) kp5
      refine ex_many (pc' := 20) (ls' := [.int a1, .int a2]) (st' := [.int a2.toInt16.toInt32]) (mem' := mem) hS hC 3 rfl ?_
      exact kp5b
  · have kp6b : pm_Ex ro m_X10_cut 20 [.int a1, .int a2] [.int a2.toInt8.toInt32] mem Q := pm_phi1 (f := fun z0 => pm_Ex ro m_X10_cut 20 [.int a1, .int a2] [.int z0] mem Q) (if_neg (h)) kp6
    refine ex_many (pc' := 20) (ls' := [.int a1, .int a2]) (st' := [.int a2.toInt8.toInt32]) (mem' := mem) hS hC 3 rfl ?_
    exact kp6b

set_option maxRecDepth 20000 in
theorem bk_X10_no_0 {ro : pm_RO} {Q : Option Value → pm_M → Prop} {mem : pm_M} {a1 : Int32} (k : Q (some (.long ((-9223372036854775808) - a1.toInt64))) mem) : pm_Ex ro m_X10_no 0 [.int a1] [] mem Q := by
  have hS : pm_sig[m_X10_no]? = some _ := rfl
  have hC : pm_cod[m_X10_no]? = some _ := rfl
  refine ex_many (pc' := 6) (ls' := [.int a1]) (st' := [.long ((-9223372036854775808) - a1.toInt64)]) (mem' := mem) hS hC 4 rfl ?_
  exact ex_ret (v := (some (.long ((-9223372036854775808) - a1.toInt64)))) hS hC rfl rfl rfl k

set_option maxRecDepth 20000 in
theorem bk_X10_whole_0 {ro : pm_RO} {Q : Option Value → pm_M → Prop} {mem : pm_M} (k : Q (some (.int (((1 : Int32) <<< ((mem 33 8) &&& 31)) - 1))) mem) : pm_Ex ro m_X10_whole 0 [.ref 33] [] mem Q := by
  have hS : pm_sig[m_X10_whole]? = some _ := rfl
  have hC : pm_cod[m_X10_whole]? = some _ := rfl
  refine ex_many (pc' := 8) (ls' := [.ref 33]) (st' := [.int (((1 : Int32) <<< ((mem 33 8) &&& 31)) - 1)]) (mem' := mem) hS hC 6 rfl ?_
  exact ex_ret (v := (some (.int (((1 : Int32) <<< ((mem 33 8) &&& 31)) - 1)))) hS hC rfl rfl rfl k

set_option maxRecDepth 20000 in
theorem bk_X10_none_0 {ro : pm_RO} {Q : Option Value → pm_M → Prop} {mem : pm_M} (k : Q (some (.int ((pm_up (pm_up mem 33 8 0) 33 10 0) 33 7))) (pm_up (pm_up mem 33 8 0) 33 10 0)) : pm_Ex ro m_X10_none 0 [.ref 33] [] mem Q := by
  have hS : pm_sig[m_X10_none]? = some _ := rfl
  have hC : pm_cod[m_X10_none]? = some _ := rfl
  refine ex_many (pc' := 14) (ls' := [.ref 33]) (st' := [.int ((pm_up (pm_up mem 33 8 0) 33 10 0) 33 7)]) (mem' := pm_up (pm_up mem 33 8 0) 33 10 0) hS hC 8 rfl ?_
  exact ex_ret (v := (some (.int ((pm_up (pm_up mem 33 8 0) 33 10 0) 33 7)))) hS hC rfl rfl rfl k

set_option maxRecDepth 20000 in
theorem bk_X10_here_0 {ro : pm_RO} {Q : Option Value → pm_M → Prop} {mem : pm_M} (k : ((mem 33 6) ≤ (mem 33 7) → Q (some (.int (-1))) mem) ∧ (¬ ((mem 33 6) ≤ (mem 33 7)) → (pm_inb (mem 33 7) 50 = true) ∧ (Q (some (.int (mem 38 ((mem 33 7).toNatClampNeg)))) mem))) : pm_Ex ro m_X10_here 0 [.ref 33] [] mem Q := by
  have hS : pm_sig[m_X10_here]? = some _ := rfl
  have hC : pm_cod[m_X10_here]? = some _ := rfl
  refine ex_many (pc' := 8) (ls' := [.ref 33]) (st' := [.int (mem 33 6), .int (mem 33 7)]) (mem' := mem) hS hC 4 rfl ?_
  refine ex_br (P := (mem 33 6) ≤ (mem 33 7)) (a := 23) (b := 11) (ls' := [.ref 33]) (st' := []) (mem' := mem) hS hC rfl (fun h => ?_) (fun h => ?_)
  · replace k := k.1 (h)
    refine ex_many (pc' := 24) (ls' := [.ref 33]) (st' := [.int (-1)]) (mem' := mem) hS hC 1 rfl ?_
    exact ex_ret (v := (some (.int (-1)))) hS hC rfl rfl rfl k
  · replace k := k.2 (h)
    refine ex_many (pc' := 19) (ls' := [.ref 33]) (st' := [.int (mem 33 7), .ref 38]) (mem' := mem) hS hC 4 rfl ?_
    refine ex_grd (b := pm_inb (mem 33 7) 50) (pc' := 20) (ls' := [.ref 33]) (st' := [.int (mem 38 ((mem 33 7).toNatClampNeg))]) (mem' := mem) hS hC rfl k.1 ?_
    replace k := k.2
    refine ex_many (pc' := 24) (ls' := [.ref 33]) (st' := [.int (mem 38 ((mem 33 7).toNatClampNeg))]) (mem' := mem) hS hC 1 rfl ?_
    exact ex_ret (v := (some (.int (mem 38 ((mem 33 7).toNatClampNeg))))) hS hC rfl rfl rfl k

set_option maxRecDepth 20000 in
theorem bk_X10_ones_0 {ro : pm_RO} {Q : Option Value → pm_M → Prop} {mem : pm_M} {a1 : Int32} (k : pm_Ex ro m_X10_ones 4 [.int a1, .int 0, .int a1] [] mem Q) : pm_Ex ro m_X10_ones 0 [.int a1, .null, .null] [] mem Q := by
  have hS : pm_sig[m_X10_ones]? = some _ := rfl
  have hC : pm_cod[m_X10_ones]? = some _ := rfl
  refine ex_many (pc' := 4) (ls' := [.int a1, .int 0, .int a1]) (st' := []) (mem' := mem) hS hC 4 rfl ?_
  exact k

set_option maxRecDepth 20000 in
theorem bk_X10_ones_4 {ro : pm_RO} {Q : Option Value → pm_M → Prop} {mem : pm_M} {x0 x1 x2 : Int32} (k : (x2 = 0 → Q (some (.int x1)) mem) ∧ (¬ (x2 = 0) → pm_Ex ro m_X10_ones 4 [.int x0, .int (x1 + 1), .int (x2 &&& (x2 - 1))] [] mem Q)) : pm_Ex ro m_X10_ones 4 [.int x0, .int x1, .int x2] [] mem Q := by
  have hS : pm_sig[m_X10_ones]? = some _ := rfl
  have hC : pm_cod[m_X10_ones]? = some _ := rfl
  refine ex_many (pc' := 5) (ls' := [.int x0, .int x1, .int x2]) (st' := [.int x2]) (mem' := mem) hS hC 1 rfl ?_
  refine ex_br (P := x2 = 0) (a := 20) (b := 8) (ls' := [.int x0, .int x1, .int x2]) (st' := []) (mem' := mem) hS hC rfl (fun h => ?_) (fun h => ?_)
  · replace k := k.1 (h)
    refine ex_many (pc' := 21) (ls' := [.int x0, .int x1, .int x2]) (st' := [.int x1]) (mem' := mem) hS hC 1 rfl ?_
    exact ex_ret (v := (some (.int x1))) hS hC rfl rfl rfl k
  · replace k := k.2 (h)
    refine ex_many (pc' := 4) (ls' := [.int x0, .int (x1 + 1), .int (x2 &&& (x2 - 1))]) (st' := []) (mem' := mem) hS hC 8 rfl ?_
    exact k

set_option maxRecDepth 20000 in
theorem bk_X10_lacks_0 {ro : pm_RO} {Q : Option Value → pm_M → Prop} {mem : pm_M} {a1 a2 a3 : Int32} (k : (pm_inb a1 4 = true) ∧ ((0 ≤ (mem 34 a1.toNatClampNeg) → (pm_inb a1 4 = true) ∧ (((mem 34 a1.toNatClampNeg) = a2 → (pm_inb a1 4 = true) ∧ ((0 ≤ a3 ∧ a3 ≤ ((mem 35 a1.toNatClampNeg) - 1) → Q (some (.int 0)) mem) ∧ (¬ (0 ≤ a3 ∧ a3 ≤ ((mem 35 a1.toNatClampNeg) - 1)) → Q (some (.int ((-10) - (2 : Int32)))) (pm_up mem 33 4 (2 : Int32))))) ∧ (¬ ((mem 34 a1.toNatClampNeg) = a2) → Q (some (.int ((-10) - (3 : Int32)))) (pm_up mem 33 4 (3 : Int32))))) ∧ (¬ (0 ≤ (mem 34 a1.toNatClampNeg)) → Q (some (.int ((-10) - (1 : Int32)))) (pm_up mem 33 4 (1 : Int32))))) : pm_Ex ro m_X10_lacks 0 [.ref 33, .int a1, .int a2, .int a3] [] mem Q := by
  have hS : pm_sig[m_X10_lacks]? = some _ := rfl
  have hC : pm_cod[m_X10_lacks]? = some _ := rfl
  refine ex_many (pc' := 5) (ls' := [.ref 33, .int a1, .int a2, .int a3]) (st' := [.int a1, .ref 34]) (mem' := mem) hS hC 3 rfl ?_
  refine ex_grd (b := pm_inb a1 4) (pc' := 6) (ls' := [.ref 33, .int a1, .int a2, .int a3]) (st' := [.int (mem 34 a1.toNatClampNeg)]) (mem' := mem) hS hC rfl k.1 ?_
  replace k := k.2
  refine ex_br (P := 0 ≤ (mem 34 a1.toNatClampNeg)) (a := 15) (b := 9) (ls' := [.ref 33, .int a1, .int a2, .int a3]) (st' := []) (mem' := mem) hS hC rfl (fun h => ?_) (fun h => ?_)
  · replace k := k.1 (h)
    refine ex_many (pc' := 20) (ls' := [.ref 33, .int a1, .int a2, .int a3]) (st' := [.int a1, .ref 34]) (mem' := mem) hS hC 3 rfl ?_
    refine ex_grd (b := pm_inb a1 4) (pc' := 21) (ls' := [.ref 33, .int a1, .int a2, .int a3]) (st' := [.int (mem 34 a1.toNatClampNeg)]) (mem' := mem) hS hC rfl k.1 ?_
    replace k := k.2
    refine ex_many (pc' := 22) (ls' := [.ref 33, .int a1, .int a2, .int a3]) (st' := [.int a2, .int (mem 34 a1.toNatClampNeg)]) (mem' := mem) hS hC 1 rfl ?_
    refine ex_br (P := (mem 34 a1.toNatClampNeg) = a2) (a := 31) (b := 25) (ls' := [.ref 33, .int a1, .int a2, .int a3]) (st' := []) (mem' := mem) hS hC rfl (fun h => ?_) (fun h => ?_)
    · replace k := k.1 (h)
      refine ex_many (pc' := 39) (ls' := [.ref 33, .int a1, .int a2, .int a3]) (st' := [.int a1, .ref 35, .long 0, .long a3.toInt64]) (mem' := mem) hS hC 6 rfl ?_
      refine ex_grd (b := pm_inb a1 4) (pc' := 40) (ls' := [.ref 33, .int a1, .int a2, .int a3]) (st' := [.int (mem 35 a1.toNatClampNeg), .long 0, .long a3.toInt64]) (mem' := mem) hS hC rfl k.1 ?_
      replace k := k.2
      refine ex_many (pc' := 43) (ls' := [.ref 33, .int a1, .int a2, .int a3]) (st' := [.long (((mem 35 a1.toNatClampNeg) - 1).toInt64), .long 0, .long a3.toInt64]) (mem' := mem) hS hC 3 rfl ?_
      refine ex_call (y' := m_X10_in) (rest := []) (ent := [.long a3.toInt64, .null, .long 0, .null, .long (((mem 35 a1.toNatClampNeg) - 1).toInt64), .null]) hS hC rfl rfl rfl rfl rfl rfl ?_
      refine sp_in32 (v := a3) (lo := 0) (hi := ((mem 35 a1.toNatClampNeg) - 1)) (by decide) rfl ?_
      show pm_Ex ro m_X10_lacks 46 [.ref 33, .int a1, .int a2, .int a3] [.int (zb (0 ≤ a3 ∧ a3 ≤ ((mem 35 a1.toNatClampNeg) - 1)))] mem Q
      refine ex_br (P := (zb (0 ≤ a3 ∧ a3 ≤ ((mem 35 a1.toNatClampNeg) - 1))) = 0) (a := 53) (b := 49) (ls' := [.ref 33, .int a1, .int a2, .int a3]) (st' := []) (mem' := mem) hS hC rfl (fun h => ?_) (fun h => ?_)
      · replace k := k.2 (zb0 h)
        refine ex_many (pc' := 55) (ls' := [.ref 33, .int a1, .int a2, .int a3]) (st' := [.int 2, .ref 33]) (mem' := mem) hS hC 2 rfl ?_
        refine ex_call (y' := m_X10_met) (rest := []) (ent := [.ref 33, .int 2]) hS hC rfl rfl rfl rfl rfl rfl ?_
        refine bk_X10_met_0 ?_
        show pm_Ex ro m_X10_lacks 58 [.ref 33, .int a1, .int a2, .int a3] [.int ((-10) - (2 : Int32))] (pm_up mem 33 4 (2 : Int32)) Q
        exact ex_ret (v := (some (.int ((-10) - (2 : Int32))))) hS hC rfl rfl rfl k
      · replace k := k.1 (zb1 h)
        refine ex_many (pc' := 58) (ls' := [.ref 33, .int a1, .int a2, .int a3]) (st' := [.int 0]) (mem' := mem) hS hC 2 rfl ?_
        exact ex_ret (v := (some (.int 0))) hS hC rfl rfl rfl k
    · replace k := k.2 (h)
      refine ex_many (pc' := 27) (ls' := [.ref 33, .int a1, .int a2, .int a3]) (st' := [.int 3, .ref 33]) (mem' := mem) hS hC 2 rfl ?_
      refine ex_call (y' := m_X10_met) (rest := []) (ent := [.ref 33, .int 3]) hS hC rfl rfl rfl rfl rfl rfl ?_
      refine bk_X10_met_0 ?_
      show pm_Ex ro m_X10_lacks 30 [.ref 33, .int a1, .int a2, .int a3] [.int ((-10) - (3 : Int32))] (pm_up mem 33 4 (3 : Int32)) Q
      exact ex_ret (v := (some (.int ((-10) - (3 : Int32))))) hS hC rfl rfl rfl k
  · replace k := k.2 (h)
    refine ex_many (pc' := 11) (ls' := [.ref 33, .int a1, .int a2, .int a3]) (st' := [.int 1, .ref 33]) (mem' := mem) hS hC 2 rfl ?_
    refine ex_call (y' := m_X10_met) (rest := []) (ent := [.ref 33, .int 1]) hS hC rfl rfl rfl rfl rfl rfl ?_
    refine bk_X10_met_0 ?_
    show pm_Ex ro m_X10_lacks 14 [.ref 33, .int a1, .int a2, .int a3] [.int ((-10) - (1 : Int32))] (pm_up mem 33 4 (1 : Int32)) Q
    exact ex_ret (v := (some (.int ((-10) - (1 : Int32))))) hS hC rfl rfl rfl k

set_option maxRecDepth 20000 in
theorem bk_X10_sheet_0 {ro : pm_RO} {Q : Option Value → pm_M → Prop} {mem : pm_M} {a1 a2 a3 : Int32} (k : (0 ≤ a1 ∧ a1 ≤ 3 → (0 ≤ a2 ∧ a2 ≤ 2 → (a3 ≤ 60 → (0 ≤ a3 → (pm_inb a1 4 = true) ∧ ((pm_inb a1 4 = true) ∧ (pm_Ex ro m_X10_sheet 55 [.ref 33, .int a1, .int a2, .int a3, .int 0] [] (pm_up (pm_up mem 34 a1.toNatClampNeg a2) 35 a1.toNatClampNeg a3) Q))) ∧ (¬ (0 ≤ a3) → Q (some (.int ((-10) - (5 : Int32)))) (pm_up mem 33 4 (5 : Int32)))) ∧ (¬ (a3 ≤ 60) → Q (some (.int (-2))) mem)) ∧ (¬ (0 ≤ a2 ∧ a2 ≤ 2) → Q (some (.int (-2))) mem)) ∧ (¬ (0 ≤ a1 ∧ a1 ≤ 3) → Q (some (.int (-2))) mem)) : pm_Ex ro m_X10_sheet 0 [.ref 33, .int a1, .int a2, .int a3, .null] [] mem Q := by
  have hS : pm_sig[m_X10_sheet]? = some _ := rfl
  have hC : pm_cod[m_X10_sheet]? = some _ := rfl
  refine ex_many (pc' := 1) (ls' := [.ref 33, .int a1, .int a2, .int a3, .null]) (st' := [.int a1]) (mem' := mem) hS hC 1 rfl ?_
  refine ex_call (y' := m_X10_isSheet) (rest := []) (ent := [.int a1]) hS hC rfl rfl rfl rfl rfl rfl ?_
  refine bk_X10_isSheet_0 ?_
  show pm_Ex ro m_X10_sheet 4 [.ref 33, .int a1, .int a2, .int a3, .null] [.int (zb (0 ≤ a1 ∧ a1 ≤ 3))] mem Q
  refine ex_br (P := (zb (0 ≤ a1 ∧ a1 ≤ 3)) = 0) (a := 25) (b := 7) (ls' := [.ref 33, .int a1, .int a2, .int a3, .null]) (st' := []) (mem' := mem) hS hC rfl (fun h => ?_) (fun h => ?_)
  · replace k := k.2 (zb0 h)
    refine ex_many (pc' := 27) (ls' := [.ref 33, .int a1, .int a2, .int a3, .null]) (st' := [.int (-2)]) (mem' := mem) hS hC 1 rfl ?_
    exact ex_ret (v := (some (.int (-2)))) hS hC rfl rfl rfl k
  · replace k := k.1 (zb1 h)
    refine ex_many (pc' := 13) (ls' := [.ref 33, .int a1, .int a2, .int a3, .null]) (st' := [.long 2, .long 0, .long a2.toInt64]) (mem' := mem) hS hC 4 rfl ?_
    refine ex_call (y' := m_X10_in) (rest := []) (ent := [.long a2.toInt64, .null, .long 0, .null, .long 2, .null]) hS hC rfl rfl rfl rfl rfl rfl ?_
    refine sp_in32 (v := a2) (lo := 0) (hi := 2) (by decide) (by decide) ?_
    show pm_Ex ro m_X10_sheet 16 [.ref 33, .int a1, .int a2, .int a3, .null] [.int (zb (0 ≤ a2 ∧ a2 ≤ 2))] mem Q
    refine ex_br (P := (zb (0 ≤ a2 ∧ a2 ≤ 2)) = 0) (a := 25) (b := 19) (ls' := [.ref 33, .int a1, .int a2, .int a3, .null]) (st' := []) (mem' := mem) hS hC rfl (fun h => ?_) (fun h => ?_)
    · replace k := k.2 (zb0 h)
      refine ex_many (pc' := 27) (ls' := [.ref 33, .int a1, .int a2, .int a3, .null]) (st' := [.int (-2)]) (mem' := mem) hS hC 1 rfl ?_
      exact ex_ret (v := (some (.int (-2)))) hS hC rfl rfl rfl k
    · replace k := k.1 (zb1 h)
      refine ex_many (pc' := 22) (ls' := [.ref 33, .int a1, .int a2, .int a3, .null]) (st' := [.int 60, .int a3]) (mem' := mem) hS hC 2 rfl ?_
      refine ex_br (P := a3 ≤ 60) (a := 28) (b := 25) (ls' := [.ref 33, .int a1, .int a2, .int a3, .null]) (st' := []) (mem' := mem) hS hC rfl (fun h => ?_) (fun h => ?_)
      · replace k := k.1 (h)
        refine ex_many (pc' := 29) (ls' := [.ref 33, .int a1, .int a2, .int a3, .null]) (st' := [.int a3]) (mem' := mem) hS hC 1 rfl ?_
        refine ex_br (P := 0 ≤ a3) (a := 38) (b := 32) (ls' := [.ref 33, .int a1, .int a2, .int a3, .null]) (st' := []) (mem' := mem) hS hC rfl (fun h => ?_) (fun h => ?_)
        · replace k := k.1 (h)
          refine ex_many (pc' := 44) (ls' := [.ref 33, .int a1, .int a2, .int a3, .null]) (st' := [.int a2, .int a1, .ref 34]) (mem' := mem) hS hC 4 rfl ?_
          refine ex_grd (b := pm_inb a1 4) (pc' := 45) (ls' := [.ref 33, .int a1, .int a2, .int a3, .null]) (st' := []) (mem' := pm_up mem 34 a1.toNatClampNeg a2) hS hC rfl k.1 ?_
          replace k := k.2
          refine ex_many (pc' := 51) (ls' := [.ref 33, .int a1, .int a2, .int a3, .null]) (st' := [.int a3, .int a1, .ref 35]) (mem' := pm_up mem 34 a1.toNatClampNeg a2) hS hC 4 rfl ?_
          refine ex_grd (b := pm_inb a1 4) (pc' := 52) (ls' := [.ref 33, .int a1, .int a2, .int a3, .null]) (st' := []) (mem' := pm_up (pm_up mem 34 a1.toNatClampNeg a2) 35 a1.toNatClampNeg a3) hS hC rfl k.1 ?_
          replace k := k.2
          refine ex_many (pc' := 55) (ls' := [.ref 33, .int a1, .int a2, .int a3, .int 0]) (st' := []) (mem' := pm_up (pm_up mem 34 a1.toNatClampNeg a2) 35 a1.toNatClampNeg a3) hS hC 2 rfl ?_
          exact k
        · replace k := k.2 (h)
          refine ex_many (pc' := 34) (ls' := [.ref 33, .int a1, .int a2, .int a3, .null]) (st' := [.int 5, .ref 33]) (mem' := mem) hS hC 2 rfl ?_
          refine ex_call (y' := m_X10_met) (rest := []) (ent := [.ref 33, .int 5]) hS hC rfl rfl rfl rfl rfl rfl ?_
          refine bk_X10_met_0 ?_
          show pm_Ex ro m_X10_sheet 37 [.ref 33, .int a1, .int a2, .int a3, .null] [.int ((-10) - (5 : Int32))] (pm_up mem 33 4 (5 : Int32)) Q
          exact ex_ret (v := (some (.int ((-10) - (5 : Int32))))) hS hC rfl rfl rfl k
      · replace k := k.2 (h)
        refine ex_many (pc' := 27) (ls' := [.ref 33, .int a1, .int a2, .int a3, .null]) (st' := [.int (-2)]) (mem' := mem) hS hC 1 rfl ?_
        exact ex_ret (v := (some (.int (-2)))) hS hC rfl rfl rfl k

set_option maxRecDepth 20000 in
theorem bk_X10_sheet_55 {ro : pm_RO} {Q : Option Value → pm_M → Prop} {mem : pm_M} {x1 x2 x3 x4 : Int32} (k : (x3 ≤ x4 → Q (some (.int x3)) mem) ∧ (¬ (x3 ≤ x4) → (pm_inb ((60 * x1) + x4) 240 = true) ∧ (pm_Ex ro m_X10_sheet 55 [.ref 33, .int x1, .int x2, .int x3, .int (x4 + 1)] [] (pm_up mem 36 (((60 * x1) + x4).toNatClampNeg) 0) Q))) : pm_Ex ro m_X10_sheet 55 [.ref 33, .int x1, .int x2, .int x3, .int x4] [] mem Q := by
  have hS : pm_sig[m_X10_sheet]? = some _ := rfl
  have hC : pm_cod[m_X10_sheet]? = some _ := rfl
  refine ex_many (pc' := 58) (ls' := [.ref 33, .int x1, .int x2, .int x3, .int x4]) (st' := [.int x3, .int x4]) (mem' := mem) hS hC 2 rfl ?_
  refine ex_br (P := x3 ≤ x4) (a := 80) (b := 61) (ls' := [.ref 33, .int x1, .int x2, .int x3, .int x4]) (st' := []) (mem' := mem) hS hC rfl (fun h => ?_) (fun h => ?_)
  · replace k := k.1 (h)
    refine ex_many (pc' := 81) (ls' := [.ref 33, .int x1, .int x2, .int x3, .int x4]) (st' := [.int x3]) (mem' := mem) hS hC 1 rfl ?_
    exact ex_ret (v := (some (.int x3))) hS hC rfl rfl rfl k
  · replace k := k.2 (h)
    refine ex_many (pc' := 73) (ls' := [.ref 33, .int x1, .int x2, .int x3, .int x4]) (st' := [.int 0, .int ((60 * x1) + x4), .ref 36]) (mem' := mem) hS hC 8 rfl ?_
    refine ex_grd (b := pm_inb ((60 * x1) + x4) 240) (pc' := 74) (ls' := [.ref 33, .int x1, .int x2, .int x3, .int x4]) (st' := []) (mem' := pm_up mem 36 (((60 * x1) + x4).toNatClampNeg) 0) hS hC rfl k.1 ?_
    replace k := k.2
    refine ex_many (pc' := 55) (ls' := [.ref 33, .int x1, .int x2, .int x3, .int (x4 + 1)]) (st' := []) (mem' := pm_up mem 36 (((60 * x1) + x4).toNatClampNeg) 0) hS hC 2 rfl ?_
    exact k

set_option maxRecDepth 20000 in
theorem bk_X10_lose_0 {ro : pm_RO} {Q : Option Value → pm_M → Prop} {mem : pm_M} {a1 : Int32} (k : (0 ≤ a1 ∧ a1 ≤ 3 → (pm_inb a1 4 = true) ∧ ((0 ≤ (mem 34 a1.toNatClampNeg) → (pm_inb a1 4 = true) ∧ ((pm_inb a1 4 = true) ∧ (Q (some (.int (mem 35 a1.toNatClampNeg))) (pm_up mem 34 a1.toNatClampNeg (-1))))) ∧ (¬ (0 ≤ (mem 34 a1.toNatClampNeg)) → Q (some (.int ((-10) - (1 : Int32)))) (pm_up mem 33 4 (1 : Int32))))) ∧ (¬ (0 ≤ a1 ∧ a1 ≤ 3) → Q (some (.int (-2))) mem)) : pm_Ex ro m_X10_lose 0 [.ref 33, .int a1] [] mem Q := by
  have hS : pm_sig[m_X10_lose]? = some _ := rfl
  have hC : pm_cod[m_X10_lose]? = some _ := rfl
  refine ex_many (pc' := 1) (ls' := [.ref 33, .int a1]) (st' := [.int a1]) (mem' := mem) hS hC 1 rfl ?_
  refine ex_call (y' := m_X10_isSheet) (rest := []) (ent := [.int a1]) hS hC rfl rfl rfl rfl rfl rfl ?_
  refine bk_X10_isSheet_0 ?_
  show pm_Ex ro m_X10_lose 4 [.ref 33, .int a1] [.int (zb (0 ≤ a1 ∧ a1 ≤ 3))] mem Q
  refine ex_br (P := ¬ (zb (0 ≤ a1 ∧ a1 ≤ 3)) = 0) (a := 10) (b := 7) (ls' := [.ref 33, .int a1]) (st' := []) (mem' := mem) hS hC rfl (fun h => ?_) (fun h => ?_)
  · replace k := k.1 (zb1 h)
    refine ex_many (pc' := 15) (ls' := [.ref 33, .int a1]) (st' := [.int a1, .ref 34]) (mem' := mem) hS hC 3 rfl ?_
    refine ex_grd (b := pm_inb a1 4) (pc' := 16) (ls' := [.ref 33, .int a1]) (st' := [.int (mem 34 a1.toNatClampNeg)]) (mem' := mem) hS hC rfl k.1 ?_
    replace k := k.2
    refine ex_br (P := 0 ≤ (mem 34 a1.toNatClampNeg)) (a := 25) (b := 19) (ls' := [.ref 33, .int a1]) (st' := []) (mem' := mem) hS hC rfl (fun h => ?_) (fun h => ?_)
    · replace k := k.1 (h)
      refine ex_many (pc' := 31) (ls' := [.ref 33, .int a1]) (st' := [.int (-1), .int a1, .ref 34]) (mem' := mem) hS hC 4 rfl ?_
      refine ex_grd (b := pm_inb a1 4) (pc' := 32) (ls' := [.ref 33, .int a1]) (st' := []) (mem' := pm_up mem 34 a1.toNatClampNeg (-1)) hS hC rfl k.1 ?_
      replace k := k.2
      refine ex_many (pc' := 37) (ls' := [.ref 33, .int a1]) (st' := [.int a1, .ref 35]) (mem' := pm_up mem 34 a1.toNatClampNeg (-1)) hS hC 3 rfl ?_
      refine ex_grd (b := pm_inb a1 4) (pc' := 38) (ls' := [.ref 33, .int a1]) (st' := [.int (mem 35 a1.toNatClampNeg)]) (mem' := pm_up mem 34 a1.toNatClampNeg (-1)) hS hC rfl k.1 ?_
      replace k := k.2
      exact ex_ret (v := (some (.int (mem 35 a1.toNatClampNeg)))) hS hC rfl rfl rfl k
    · replace k := k.2 (h)
      refine ex_many (pc' := 21) (ls' := [.ref 33, .int a1]) (st' := [.int 1, .ref 33]) (mem' := mem) hS hC 2 rfl ?_
      refine ex_call (y' := m_X10_met) (rest := []) (ent := [.ref 33, .int 1]) hS hC rfl rfl rfl rfl rfl rfl ?_
      refine bk_X10_met_0 ?_
      show pm_Ex ro m_X10_lose 24 [.ref 33, .int a1] [.int ((-10) - (1 : Int32))] (pm_up mem 33 4 (1 : Int32)) Q
      exact ex_ret (v := (some (.int ((-10) - (1 : Int32))))) hS hC rfl rfl rfl k
  · replace k := k.2 (zb0n h)
    refine ex_many (pc' := 9) (ls' := [.ref 33, .int a1]) (st' := [.int (-2)]) (mem' := mem) hS hC 1 rfl ?_
    exact ex_ret (v := (some (.int (-2)))) hS hC rfl rfl rfl k

set_option maxRecDepth 20000 in
theorem bk_X10_lay_0 {ro : pm_RO} {Q : Option Value → pm_M → Prop} {mem : pm_M} {a1 a2 a3 a4 : Int32} (k : (0 ≤ a1 ∧ a1 ≤ 3 → (0 ≤ a2 ∧ a2 ≤ 2 → pm_Ex ro m_X10_lacks 0 [.ref 33, .int a1, .int a2, .int a3] [] mem (fun v m => pm_Ex ro m_X10_lay 29 [.ref 33, .int a1, .int a2, .int a3, .int a4, .null] (v.toList ++ []) m Q)) ∧ (¬ (0 ≤ a2 ∧ a2 ≤ 2) → Q (some (.int (-2))) mem)) ∧ (¬ (0 ≤ a1 ∧ a1 ≤ 3) → Q (some (.int (-2))) mem)) : pm_Ex ro m_X10_lay 0 [.ref 33, .int a1, .int a2, .int a3, .int a4, .null] [] mem Q := by
  have hS : pm_sig[m_X10_lay]? = some _ := rfl
  have hC : pm_cod[m_X10_lay]? = some _ := rfl
  refine ex_many (pc' := 1) (ls' := [.ref 33, .int a1, .int a2, .int a3, .int a4, .null]) (st' := [.int a1]) (mem' := mem) hS hC 1 rfl ?_
  refine ex_call (y' := m_X10_isSheet) (rest := []) (ent := [.int a1]) hS hC rfl rfl rfl rfl rfl rfl ?_
  refine bk_X10_isSheet_0 ?_
  show pm_Ex ro m_X10_lay 4 [.ref 33, .int a1, .int a2, .int a3, .int a4, .null] [.int (zb (0 ≤ a1 ∧ a1 ≤ 3))] mem Q
  refine ex_br (P := (zb (0 ≤ a1 ∧ a1 ≤ 3)) = 0) (a := 19) (b := 7) (ls' := [.ref 33, .int a1, .int a2, .int a3, .int a4, .null]) (st' := []) (mem' := mem) hS hC rfl (fun h => ?_) (fun h => ?_)
  · replace k := k.2 (zb0 h)
    refine ex_many (pc' := 21) (ls' := [.ref 33, .int a1, .int a2, .int a3, .int a4, .null]) (st' := [.int (-2)]) (mem' := mem) hS hC 1 rfl ?_
    exact ex_ret (v := (some (.int (-2)))) hS hC rfl rfl rfl k
  · replace k := k.1 (zb1 h)
    refine ex_many (pc' := 13) (ls' := [.ref 33, .int a1, .int a2, .int a3, .int a4, .null]) (st' := [.long 2, .long 0, .long a2.toInt64]) (mem' := mem) hS hC 4 rfl ?_
    refine ex_call (y' := m_X10_in) (rest := []) (ent := [.long a2.toInt64, .null, .long 0, .null, .long 2, .null]) hS hC rfl rfl rfl rfl rfl rfl ?_
    refine sp_in32 (v := a2) (lo := 0) (hi := 2) (by decide) (by decide) ?_
    show pm_Ex ro m_X10_lay 16 [.ref 33, .int a1, .int a2, .int a3, .int a4, .null] [.int (zb (0 ≤ a2 ∧ a2 ≤ 2))] mem Q
    refine ex_br (P := ¬ (zb (0 ≤ a2 ∧ a2 ≤ 2)) = 0) (a := 22) (b := 19) (ls' := [.ref 33, .int a1, .int a2, .int a3, .int a4, .null]) (st' := []) (mem' := mem) hS hC rfl (fun h => ?_) (fun h => ?_)
    · replace k := k.1 (zb1 h)
      refine ex_many (pc' := 26) (ls' := [.ref 33, .int a1, .int a2, .int a3, .int a4, .null]) (st' := [.int a3, .int a2, .int a1, .ref 33]) (mem' := mem) hS hC 4 rfl ?_
      refine ex_call (y' := m_X10_lacks) (rest := []) (ent := [.ref 33, .int a1, .int a2, .int a3]) hS hC rfl rfl rfl rfl rfl rfl ?_
      exact k
    · replace k := k.2 (zb0n h)
      refine ex_many (pc' := 21) (ls' := [.ref 33, .int a1, .int a2, .int a3, .int a4, .null]) (st' := [.int (-2)]) (mem' := mem) hS hC 1 rfl ?_
      exact ex_ret (v := (some (.int (-2)))) hS hC rfl rfl rfl k

set_option maxRecDepth 20000 in
theorem bk_X10_lay_29 {ro : pm_RO} {Q : Option Value → pm_M → Prop} {mem : pm_M} {x1 x2 x3 x4 s0 : Int32} (k : (s0 = 0 → (pm_inb ((60 * x1) + x3) 240 = true) ∧ (Q (some (.int 1)) (pm_up mem 36 (((60 * x1) + x3).toNatClampNeg) (if ¬ x2 = 0 then (if ¬ x2 = 1 then x4 else x4.toInt16.toInt32 : Int32) else x4.toInt8.toInt32 : Int32)))) ∧ (¬ (s0 = 0) → Q (some (.int s0)) mem)) : pm_Ex ro m_X10_lay 29 [.ref 33, .int x1, .int x2, .int x3, .int x4, .null] [.int s0] mem Q := by
  have hS : pm_sig[m_X10_lay]? = some _ := rfl
  have hC : pm_cod[m_X10_lay]? = some _ := rfl
  refine ex_many (pc' := 33) (ls' := [.ref 33, .int x1, .int x2, .int x3, .int x4, .int s0]) (st' := [.int s0]) (mem' := mem) hS hC 2 rfl ?_
  refine ex_br (P := s0 = 0) (a := 39) (b := 36) (ls' := [.ref 33, .int x1, .int x2, .int x3, .int x4, .int s0]) (st' := []) (mem' := mem) hS hC rfl (fun h => ?_) (fun h => ?_)
  · replace k := k.1 (h)
    refine ex_many (pc' := 52) (ls' := [.ref 33, .int x1, .int x2, .int x3, .int x4, .int s0]) (st' := [.int x4, .int x2, .int ((60 * x1) + x3), .ref 36]) (mem' := mem) hS hC 9 rfl ?_
    refine ex_call (y' := m_X10_cut) (rest := [.int ((60 * x1) + x3), .ref 36]) (ent := [.int x2, .int x4]) hS hC rfl rfl rfl rfl rfl rfl ?_
    refine bk_X10_cut_0 ?_
    show pm_Ex ro m_X10_lay 55 [.ref 33, .int x1, .int x2, .int x3, .int x4, .int s0] [.int (if ¬ x2 = 0 then (if ¬ x2 = 1 then x4 else x4.toInt16.toInt32 : Int32) else x4.toInt8.toInt32 : Int32), .int ((60 * x1) + x3), .ref 36] mem Q
    refine ex_grd (b := pm_inb ((60 * x1) + x3) 240) (pc' := 56) (ls' := [.ref 33, .int x1, .int x2, .int x3, .int x4, .int s0]) (st' := []) (mem' := pm_up mem 36 (((60 * x1) + x3).toNatClampNeg) (if ¬ x2 = 0 then (if ¬ x2 = 1 then x4 else x4.toInt16.toInt32 : Int32) else x4.toInt8.toInt32 : Int32)) hS hC rfl k.1 ?_
    replace k := k.2
    refine ex_many (pc' := 57) (ls' := [.ref 33, .int x1, .int x2, .int x3, .int x4, .int s0]) (st' := [.int 1]) (mem' := pm_up mem 36 (((60 * x1) + x3).toNatClampNeg) (if ¬ x2 = 0 then (if ¬ x2 = 1 then x4 else x4.toInt16.toInt32 : Int32) else x4.toInt8.toInt32 : Int32)) hS hC 1 rfl ?_
    exact ex_ret (v := (some (.int 1))) hS hC rfl rfl rfl k
  · replace k := k.2 (h)
    refine ex_many (pc' := 38) (ls' := [.ref 33, .int x1, .int x2, .int x3, .int x4, .int s0]) (st' := [.int s0]) (mem' := mem) hS hC 1 rfl ?_
    exact ex_ret (v := (some (.int s0))) hS hC rfl rfl rfl k

set_option maxRecDepth 20000 in
theorem bk_X10_get_0 {ro : pm_RO} {Q : Option Value → pm_M → Prop} {mem : pm_M} {a1 a2 a3 : Int32} (k : (0 ≤ a1 ∧ a1 ≤ 3 → (0 ≤ a2 ∧ a2 ≤ 2 → pm_Ex ro m_X10_lacks 0 [.ref 33, .int a1, .int a2, .int a3] [] mem (fun v m => pm_Ex ro m_X10_get 26 [.ref 33, .int a1, .int a2, .int a3] (v.toList ++ []) m Q)) ∧ (¬ (0 ≤ a2 ∧ a2 ≤ 2) → Q (some (.int (-2147483648))) mem)) ∧ (¬ (0 ≤ a1 ∧ a1 ≤ 3) → Q (some (.int (-2147483648))) mem)) : pm_Ex ro m_X10_get 0 [.ref 33, .int a1, .int a2, .int a3] [] mem Q := by
  have hS : pm_sig[m_X10_get]? = some _ := rfl
  have hC : pm_cod[m_X10_get]? = some _ := rfl
  refine ex_many (pc' := 1) (ls' := [.ref 33, .int a1, .int a2, .int a3]) (st' := [.int a1]) (mem' := mem) hS hC 1 rfl ?_
  refine ex_call (y' := m_X10_isSheet) (rest := []) (ent := [.int a1]) hS hC rfl rfl rfl rfl rfl rfl ?_
  refine bk_X10_isSheet_0 ?_
  show pm_Ex ro m_X10_get 4 [.ref 33, .int a1, .int a2, .int a3] [.int (zb (0 ≤ a1 ∧ a1 ≤ 3))] mem Q
  refine ex_br (P := (zb (0 ≤ a1 ∧ a1 ≤ 3)) = 0) (a := 29) (b := 7) (ls' := [.ref 33, .int a1, .int a2, .int a3]) (st' := []) (mem' := mem) hS hC rfl (fun h => ?_) (fun h => ?_)
  · replace k := k.2 (zb0 h)
    refine ex_many (pc' := 31) (ls' := [.ref 33, .int a1, .int a2, .int a3]) (st' := [.int (-2147483648)]) (mem' := mem) hS hC 1 rfl ?_
    exact ex_ret (v := (some (.int (-2147483648)))) hS hC rfl rfl rfl k
  · replace k := k.1 (zb1 h)
    refine ex_many (pc' := 13) (ls' := [.ref 33, .int a1, .int a2, .int a3]) (st' := [.long 2, .long 0, .long a2.toInt64]) (mem' := mem) hS hC 4 rfl ?_
    refine ex_call (y' := m_X10_in) (rest := []) (ent := [.long a2.toInt64, .null, .long 0, .null, .long 2, .null]) hS hC rfl rfl rfl rfl rfl rfl ?_
    refine sp_in32 (v := a2) (lo := 0) (hi := 2) (by decide) (by decide) ?_
    show pm_Ex ro m_X10_get 16 [.ref 33, .int a1, .int a2, .int a3] [.int (zb (0 ≤ a2 ∧ a2 ≤ 2))] mem Q
    refine ex_br (P := (zb (0 ≤ a2 ∧ a2 ≤ 2)) = 0) (a := 29) (b := 19) (ls' := [.ref 33, .int a1, .int a2, .int a3]) (st' := []) (mem' := mem) hS hC rfl (fun h => ?_) (fun h => ?_)
    · replace k := k.2 (zb0 h)
      refine ex_many (pc' := 31) (ls' := [.ref 33, .int a1, .int a2, .int a3]) (st' := [.int (-2147483648)]) (mem' := mem) hS hC 1 rfl ?_
      exact ex_ret (v := (some (.int (-2147483648)))) hS hC rfl rfl rfl k
    · replace k := k.1 (zb1 h)
      refine ex_many (pc' := 23) (ls' := [.ref 33, .int a1, .int a2, .int a3]) (st' := [.int a3, .int a2, .int a1, .ref 33]) (mem' := mem) hS hC 4 rfl ?_
      refine ex_call (y' := m_X10_lacks) (rest := []) (ent := [.ref 33, .int a1, .int a2, .int a3]) hS hC rfl rfl rfl rfl rfl rfl ?_
      exact k

set_option maxRecDepth 20000 in
theorem bk_X10_get_26 {ro : pm_RO} {Q : Option Value → pm_M → Prop} {mem : pm_M} {x1 x2 x3 s0 : Int32} (k : (s0 = 0 → (pm_inb ((60 * x1) + x3) 240 = true) ∧ (Q (some (.int (mem 36 (((60 * x1) + x3).toNatClampNeg)))) mem)) ∧ (¬ (s0 = 0) → Q (some (.int (-2147483648))) mem)) : pm_Ex ro m_X10_get 26 [.ref 33, .int x1, .int x2, .int x3] [.int s0] mem Q := by
  have hS : pm_sig[m_X10_get]? = some _ := rfl
  have hC : pm_cod[m_X10_get]? = some _ := rfl
  refine ex_br (P := s0 = 0) (a := 32) (b := 29) (ls' := [.ref 33, .int x1, .int x2, .int x3]) (st' := []) (mem' := mem) hS hC rfl (fun h => ?_) (fun h => ?_)
  · replace k := k.1 (h)
    refine ex_many (pc' := 42) (ls' := [.ref 33, .int x1, .int x2, .int x3]) (st' := [.int ((60 * x1) + x3), .ref 36]) (mem' := mem) hS hC 7 rfl ?_
    refine ex_grd (b := pm_inb ((60 * x1) + x3) 240) (pc' := 43) (ls' := [.ref 33, .int x1, .int x2, .int x3]) (st' := [.int (mem 36 (((60 * x1) + x3).toNatClampNeg))]) (mem' := mem) hS hC rfl k.1 ?_
    replace k := k.2
    exact ex_ret (v := (some (.int (mem 36 (((60 * x1) + x3).toNatClampNeg))))) hS hC rfl rfl rfl k
  · replace k := k.2 (h)
    refine ex_many (pc' := 31) (ls' := [.ref 33, .int x1, .int x2, .int x3]) (st' := [.int (-2147483648)]) (mem' := mem) hS hC 1 rfl ?_
    exact ex_ret (v := (some (.int (-2147483648)))) hS hC rfl rfl rfl k

set_option maxRecDepth 20000 in
theorem bk_X10_copy_0 {ro : pm_RO} {Q : Option Value → pm_M → Prop} {mem : pm_M} {a1 a2 a3 a4 a5 : Int32} (k : (0 ≤ a1 ∧ a1 ≤ 3 → (0 ≤ a3 ∧ a3 ≤ 3 → (pm_inb a1 4 = true) ∧ (((mem 34 a1.toNatClampNeg) < 0 → Q (some (.int ((-10) - (1 : Int32)))) (pm_up mem 33 4 (1 : Int32))) ∧ (¬ ((mem 34 a1.toNatClampNeg) < 0) → (pm_inb a3 4 = true) ∧ ((0 ≤ (mem 34 a3.toNatClampNeg) → (pm_inb a1 4 = true) ∧ ((pm_inb a3 4 = true) ∧ (((mem 34 a1.toNatClampNeg) = (mem 34 a3.toNatClampNeg) → (a2 < 0 → Q (some (.int ((-10) - (2 : Int32)))) (pm_up mem 33 4 (2 : Int32))) ∧ (¬ (a2 < 0) → (a4 < 0 → Q (some (.int ((-10) - (2 : Int32)))) (pm_up mem 33 4 (2 : Int32))) ∧ (¬ (a4 < 0) → (a5 < 0 → Q (some (.int ((-10) - (2 : Int32)))) (pm_up mem 33 4 (2 : Int32))) ∧ (¬ (a5 < 0) → (pm_inb a1 4 = true) ∧ ((0 < (lg_cmp (a2.toInt64 + a5.toInt64) ((mem 35 a1.toNatClampNeg).toInt64)) → Q (some (.int ((-10) - (2 : Int32)))) (pm_up mem 33 4 (2 : Int32))) ∧ (¬ (0 < (lg_cmp (a2.toInt64 + a5.toInt64) ((mem 35 a1.toNatClampNeg).toInt64))) → (pm_inb a3 4 = true) ∧ (((lg_cmp (a4.toInt64 + a5.toInt64) ((mem 35 a3.toNatClampNeg).toInt64)) ≤ 0 → pm_Ex ro m_X10_copy 120 [.ref 33, .int a1, .int a2, .int a3, .int a4, .int a5, .int 0] [] mem Q) ∧ (¬ ((lg_cmp (a4.toInt64 + a5.toInt64) ((mem 35 a3.toNatClampNeg).toInt64)) ≤ 0) → Q (some (.int ((-10) - (2 : Int32)))) (pm_up mem 33 4 (2 : Int32)))))))))) ∧ (¬ ((mem 34 a1.toNatClampNeg) = (mem 34 a3.toNatClampNeg)) → Q (some (.int ((-10) - (4 : Int32)))) (pm_up mem 33 4 (4 : Int32)))))) ∧ (¬ (0 ≤ (mem 34 a3.toNatClampNeg)) → Q (some (.int ((-10) - (1 : Int32)))) (pm_up mem 33 4 (1 : Int32))))))) ∧ (¬ (0 ≤ a3 ∧ a3 ≤ 3) → Q (some (.int (-2))) mem)) ∧ (¬ (0 ≤ a1 ∧ a1 ≤ 3) → Q (some (.int (-2))) mem)) : pm_Ex ro m_X10_copy 0 [.ref 33, .int a1, .int a2, .int a3, .int a4, .int a5, .null] [] mem Q := by
  have hS : pm_sig[m_X10_copy]? = some _ := rfl
  have hC : pm_cod[m_X10_copy]? = some _ := rfl
  refine ex_many (pc' := 1) (ls' := [.ref 33, .int a1, .int a2, .int a3, .int a4, .int a5, .null]) (st' := [.int a1]) (mem' := mem) hS hC 1 rfl ?_
  refine ex_call (y' := m_X10_isSheet) (rest := []) (ent := [.int a1]) hS hC rfl rfl rfl rfl rfl rfl ?_
  refine bk_X10_isSheet_0 ?_
  show pm_Ex ro m_X10_copy 4 [.ref 33, .int a1, .int a2, .int a3, .int a4, .int a5, .null] [.int (zb (0 ≤ a1 ∧ a1 ≤ 3))] mem Q
  refine ex_br (P := (zb (0 ≤ a1 ∧ a1 ≤ 3)) = 0) (a := 14) (b := 7) (ls' := [.ref 33, .int a1, .int a2, .int a3, .int a4, .int a5, .null]) (st' := []) (mem' := mem) hS hC rfl (fun h => ?_) (fun h => ?_)
  · replace k := k.2 (zb0 h)
    refine ex_many (pc' := 16) (ls' := [.ref 33, .int a1, .int a2, .int a3, .int a4, .int a5, .null]) (st' := [.int (-2)]) (mem' := mem) hS hC 1 rfl ?_
    exact ex_ret (v := (some (.int (-2)))) hS hC rfl rfl rfl k
  · replace k := k.1 (zb1 h)
    refine ex_many (pc' := 8) (ls' := [.ref 33, .int a1, .int a2, .int a3, .int a4, .int a5, .null]) (st' := [.int a3]) (mem' := mem) hS hC 1 rfl ?_
    refine ex_call (y' := m_X10_isSheet) (rest := []) (ent := [.int a3]) hS hC rfl rfl rfl rfl rfl rfl ?_
    refine bk_X10_isSheet_0 ?_
    show pm_Ex ro m_X10_copy 11 [.ref 33, .int a1, .int a2, .int a3, .int a4, .int a5, .null] [.int (zb (0 ≤ a3 ∧ a3 ≤ 3))] mem Q
    refine ex_br (P := ¬ (zb (0 ≤ a3 ∧ a3 ≤ 3)) = 0) (a := 17) (b := 14) (ls' := [.ref 33, .int a1, .int a2, .int a3, .int a4, .int a5, .null]) (st' := []) (mem' := mem) hS hC rfl (fun h => ?_) (fun h => ?_)
    · replace k := k.1 (zb1 h)
      refine ex_many (pc' := 22) (ls' := [.ref 33, .int a1, .int a2, .int a3, .int a4, .int a5, .null]) (st' := [.int a1, .ref 34]) (mem' := mem) hS hC 3 rfl ?_
      refine ex_grd (b := pm_inb a1 4) (pc' := 23) (ls' := [.ref 33, .int a1, .int a2, .int a3, .int a4, .int a5, .null]) (st' := [.int (mem 34 a1.toNatClampNeg)]) (mem' := mem) hS hC rfl k.1 ?_
      replace k := k.2
      refine ex_br (P := (mem 34 a1.toNatClampNeg) < 0) (a := 35) (b := 26) (ls' := [.ref 33, .int a1, .int a2, .int a3, .int a4, .int a5, .null]) (st' := []) (mem' := mem) hS hC rfl (fun h => ?_) (fun h => ?_)
      · replace k := k.1 (h)
        refine ex_many (pc' := 37) (ls' := [.ref 33, .int a1, .int a2, .int a3, .int a4, .int a5, .null]) (st' := [.int 1, .ref 33]) (mem' := mem) hS hC 2 rfl ?_
        refine ex_call (y' := m_X10_met) (rest := []) (ent := [.ref 33, .int 1]) hS hC rfl rfl rfl rfl rfl rfl ?_
        refine bk_X10_met_0 ?_
        show pm_Ex ro m_X10_copy 40 [.ref 33, .int a1, .int a2, .int a3, .int a4, .int a5, .null] [.int ((-10) - (1 : Int32))] (pm_up mem 33 4 (1 : Int32)) Q
        exact ex_ret (v := (some (.int ((-10) - (1 : Int32))))) hS hC rfl rfl rfl k
      · replace k := k.2 (h)
        refine ex_many (pc' := 31) (ls' := [.ref 33, .int a1, .int a2, .int a3, .int a4, .int a5, .null]) (st' := [.int a3, .ref 34]) (mem' := mem) hS hC 3 rfl ?_
        refine ex_grd (b := pm_inb a3 4) (pc' := 32) (ls' := [.ref 33, .int a1, .int a2, .int a3, .int a4, .int a5, .null]) (st' := [.int (mem 34 a3.toNatClampNeg)]) (mem' := mem) hS hC rfl k.1 ?_
        replace k := k.2
        refine ex_br (P := 0 ≤ (mem 34 a3.toNatClampNeg)) (a := 41) (b := 35) (ls' := [.ref 33, .int a1, .int a2, .int a3, .int a4, .int a5, .null]) (st' := []) (mem' := mem) hS hC rfl (fun h => ?_) (fun h => ?_)
        · replace k := k.1 (h)
          refine ex_many (pc' := 46) (ls' := [.ref 33, .int a1, .int a2, .int a3, .int a4, .int a5, .null]) (st' := [.int a1, .ref 34]) (mem' := mem) hS hC 3 rfl ?_
          refine ex_grd (b := pm_inb a1 4) (pc' := 47) (ls' := [.ref 33, .int a1, .int a2, .int a3, .int a4, .int a5, .null]) (st' := [.int (mem 34 a1.toNatClampNeg)]) (mem' := mem) hS hC rfl k.1 ?_
          replace k := k.2
          refine ex_many (pc' := 52) (ls' := [.ref 33, .int a1, .int a2, .int a3, .int a4, .int a5, .null]) (st' := [.int a3, .ref 34, .int (mem 34 a1.toNatClampNeg)]) (mem' := mem) hS hC 3 rfl ?_
          refine ex_grd (b := pm_inb a3 4) (pc' := 53) (ls' := [.ref 33, .int a1, .int a2, .int a3, .int a4, .int a5, .null]) (st' := [.int (mem 34 a3.toNatClampNeg), .int (mem 34 a1.toNatClampNeg)]) (mem' := mem) hS hC rfl k.1 ?_
          replace k := k.2
          refine ex_br (P := (mem 34 a1.toNatClampNeg) = (mem 34 a3.toNatClampNeg)) (a := 62) (b := 56) (ls' := [.ref 33, .int a1, .int a2, .int a3, .int a4, .int a5, .null]) (st' := []) (mem' := mem) hS hC rfl (fun h => ?_) (fun h => ?_)
          · replace k := k.1 (h)
            refine ex_many (pc' := 63) (ls' := [.ref 33, .int a1, .int a2, .int a3, .int a4, .int a5, .null]) (st' := [.int a2]) (mem' := mem) hS hC 1 rfl ?_
            refine ex_br (P := a2 < 0) (a := 111) (b := 66) (ls' := [.ref 33, .int a1, .int a2, .int a3, .int a4, .int a5, .null]) (st' := []) (mem' := mem) hS hC rfl (fun h => ?_) (fun h => ?_)
            · replace k := k.1 (h)
              refine ex_many (pc' := 113) (ls' := [.ref 33, .int a1, .int a2, .int a3, .int a4, .int a5, .null]) (st' := [.int 2, .ref 33]) (mem' := mem) hS hC 2 rfl ?_
              refine ex_call (y' := m_X10_met) (rest := []) (ent := [.ref 33, .int 2]) hS hC rfl rfl rfl rfl rfl rfl ?_
              refine bk_X10_met_0 ?_
              show pm_Ex ro m_X10_copy 116 [.ref 33, .int a1, .int a2, .int a3, .int a4, .int a5, .null] [.int ((-10) - (2 : Int32))] (pm_up mem 33 4 (2 : Int32)) Q
              exact ex_ret (v := (some (.int ((-10) - (2 : Int32))))) hS hC rfl rfl rfl k
            · replace k := k.2 (h)
              refine ex_many (pc' := 68) (ls' := [.ref 33, .int a1, .int a2, .int a3, .int a4, .int a5, .null]) (st' := [.int a4]) (mem' := mem) hS hC 1 rfl ?_
              refine ex_br (P := a4 < 0) (a := 111) (b := 71) (ls' := [.ref 33, .int a1, .int a2, .int a3, .int a4, .int a5, .null]) (st' := []) (mem' := mem) hS hC rfl (fun h => ?_) (fun h => ?_)
              · replace k := k.1 (h)
                refine ex_many (pc' := 113) (ls' := [.ref 33, .int a1, .int a2, .int a3, .int a4, .int a5, .null]) (st' := [.int 2, .ref 33]) (mem' := mem) hS hC 2 rfl ?_
                refine ex_call (y' := m_X10_met) (rest := []) (ent := [.ref 33, .int 2]) hS hC rfl rfl rfl rfl rfl rfl ?_
                refine bk_X10_met_0 ?_
                show pm_Ex ro m_X10_copy 116 [.ref 33, .int a1, .int a2, .int a3, .int a4, .int a5, .null] [.int ((-10) - (2 : Int32))] (pm_up mem 33 4 (2 : Int32)) Q
                exact ex_ret (v := (some (.int ((-10) - (2 : Int32))))) hS hC rfl rfl rfl k
              · replace k := k.2 (h)
                refine ex_many (pc' := 73) (ls' := [.ref 33, .int a1, .int a2, .int a3, .int a4, .int a5, .null]) (st' := [.int a5]) (mem' := mem) hS hC 1 rfl ?_
                refine ex_br (P := a5 < 0) (a := 111) (b := 76) (ls' := [.ref 33, .int a1, .int a2, .int a3, .int a4, .int a5, .null]) (st' := []) (mem' := mem) hS hC rfl (fun h => ?_) (fun h => ?_)
                · replace k := k.1 (h)
                  refine ex_many (pc' := 113) (ls' := [.ref 33, .int a1, .int a2, .int a3, .int a4, .int a5, .null]) (st' := [.int 2, .ref 33]) (mem' := mem) hS hC 2 rfl ?_
                  refine ex_call (y' := m_X10_met) (rest := []) (ent := [.ref 33, .int 2]) hS hC rfl rfl rfl rfl rfl rfl ?_
                  refine bk_X10_met_0 ?_
                  show pm_Ex ro m_X10_copy 116 [.ref 33, .int a1, .int a2, .int a3, .int a4, .int a5, .null] [.int ((-10) - (2 : Int32))] (pm_up mem 33 4 (2 : Int32)) Q
                  exact ex_ret (v := (some (.int ((-10) - (2 : Int32))))) hS hC rfl rfl rfl k
                · replace k := k.2 (h)
                  refine ex_many (pc' := 87) (ls' := [.ref 33, .int a1, .int a2, .int a3, .int a4, .int a5, .null]) (st' := [.int a1, .ref 35, .long (a2.toInt64 + a5.toInt64)]) (mem' := mem) hS hC 8 rfl ?_
                  refine ex_grd (b := pm_inb a1 4) (pc' := 88) (ls' := [.ref 33, .int a1, .int a2, .int a3, .int a4, .int a5, .null]) (st' := [.int (mem 35 a1.toNatClampNeg), .long (a2.toInt64 + a5.toInt64)]) (mem' := mem) hS hC rfl k.1 ?_
                  replace k := k.2
                  refine ex_many (pc' := 90) (ls' := [.ref 33, .int a1, .int a2, .int a3, .int a4, .int a5, .null]) (st' := [.int (lg_cmp (a2.toInt64 + a5.toInt64) ((mem 35 a1.toNatClampNeg).toInt64))]) (mem' := mem) hS hC 2 rfl ?_
                  refine ex_br (P := 0 < (lg_cmp (a2.toInt64 + a5.toInt64) ((mem 35 a1.toNatClampNeg).toInt64))) (a := 111) (b := 93) (ls' := [.ref 33, .int a1, .int a2, .int a3, .int a4, .int a5, .null]) (st' := []) (mem' := mem) hS hC rfl (fun h => ?_) (fun h => ?_)
                  · replace k := k.1 (h)
                    refine ex_many (pc' := 113) (ls' := [.ref 33, .int a1, .int a2, .int a3, .int a4, .int a5, .null]) (st' := [.int 2, .ref 33]) (mem' := mem) hS hC 2 rfl ?_
                    refine ex_call (y' := m_X10_met) (rest := []) (ent := [.ref 33, .int 2]) hS hC rfl rfl rfl rfl rfl rfl ?_
                    refine bk_X10_met_0 ?_
                    show pm_Ex ro m_X10_copy 116 [.ref 33, .int a1, .int a2, .int a3, .int a4, .int a5, .null] [.int ((-10) - (2 : Int32))] (pm_up mem 33 4 (2 : Int32)) Q
                    exact ex_ret (v := (some (.int ((-10) - (2 : Int32))))) hS hC rfl rfl rfl k
                  · replace k := k.2 (h)
                    refine ex_many (pc' := 105) (ls' := [.ref 33, .int a1, .int a2, .int a3, .int a4, .int a5, .null]) (st' := [.int a3, .ref 35, .long (a4.toInt64 + a5.toInt64)]) (mem' := mem) hS hC 8 rfl ?_
                    refine ex_grd (b := pm_inb a3 4) (pc' := 106) (ls' := [.ref 33, .int a1, .int a2, .int a3, .int a4, .int a5, .null]) (st' := [.int (mem 35 a3.toNatClampNeg), .long (a4.toInt64 + a5.toInt64)]) (mem' := mem) hS hC rfl k.1 ?_
                    replace k := k.2
                    refine ex_many (pc' := 108) (ls' := [.ref 33, .int a1, .int a2, .int a3, .int a4, .int a5, .null]) (st' := [.int (lg_cmp (a4.toInt64 + a5.toInt64) ((mem 35 a3.toNatClampNeg).toInt64))]) (mem' := mem) hS hC 2 rfl ?_
                    refine ex_br (P := (lg_cmp (a4.toInt64 + a5.toInt64) ((mem 35 a3.toNatClampNeg).toInt64)) ≤ 0) (a := 117) (b := 111) (ls' := [.ref 33, .int a1, .int a2, .int a3, .int a4, .int a5, .null]) (st' := []) (mem' := mem) hS hC rfl (fun h => ?_) (fun h => ?_)
                    · replace k := k.1 (h)
                      refine ex_many (pc' := 120) (ls' := [.ref 33, .int a1, .int a2, .int a3, .int a4, .int a5, .int 0]) (st' := []) (mem' := mem) hS hC 2 rfl ?_
                      exact k
                    · replace k := k.2 (h)
                      refine ex_many (pc' := 113) (ls' := [.ref 33, .int a1, .int a2, .int a3, .int a4, .int a5, .null]) (st' := [.int 2, .ref 33]) (mem' := mem) hS hC 2 rfl ?_
                      refine ex_call (y' := m_X10_met) (rest := []) (ent := [.ref 33, .int 2]) hS hC rfl rfl rfl rfl rfl rfl ?_
                      refine bk_X10_met_0 ?_
                      show pm_Ex ro m_X10_copy 116 [.ref 33, .int a1, .int a2, .int a3, .int a4, .int a5, .null] [.int ((-10) - (2 : Int32))] (pm_up mem 33 4 (2 : Int32)) Q
                      exact ex_ret (v := (some (.int ((-10) - (2 : Int32))))) hS hC rfl rfl rfl k
          · replace k := k.2 (h)
            refine ex_many (pc' := 58) (ls' := [.ref 33, .int a1, .int a2, .int a3, .int a4, .int a5, .null]) (st' := [.int 4, .ref 33]) (mem' := mem) hS hC 2 rfl ?_
            refine ex_call (y' := m_X10_met) (rest := []) (ent := [.ref 33, .int 4]) hS hC rfl rfl rfl rfl rfl rfl ?_
            refine bk_X10_met_0 ?_
            show pm_Ex ro m_X10_copy 61 [.ref 33, .int a1, .int a2, .int a3, .int a4, .int a5, .null] [.int ((-10) - (4 : Int32))] (pm_up mem 33 4 (4 : Int32)) Q
            exact ex_ret (v := (some (.int ((-10) - (4 : Int32))))) hS hC rfl rfl rfl k
        · replace k := k.2 (h)
          refine ex_many (pc' := 37) (ls' := [.ref 33, .int a1, .int a2, .int a3, .int a4, .int a5, .null]) (st' := [.int 1, .ref 33]) (mem' := mem) hS hC 2 rfl ?_
          refine ex_call (y' := m_X10_met) (rest := []) (ent := [.ref 33, .int 1]) hS hC rfl rfl rfl rfl rfl rfl ?_
          refine bk_X10_met_0 ?_
          show pm_Ex ro m_X10_copy 40 [.ref 33, .int a1, .int a2, .int a3, .int a4, .int a5, .null] [.int ((-10) - (1 : Int32))] (pm_up mem 33 4 (1 : Int32)) Q
          exact ex_ret (v := (some (.int ((-10) - (1 : Int32))))) hS hC rfl rfl rfl k
    · replace k := k.2 (zb0n h)
      refine ex_many (pc' := 16) (ls' := [.ref 33, .int a1, .int a2, .int a3, .int a4, .int a5, .null]) (st' := [.int (-2)]) (mem' := mem) hS hC 1 rfl ?_
      exact ex_ret (v := (some (.int (-2)))) hS hC rfl rfl rfl k

set_option maxRecDepth 20000 in
theorem bk_X10_copy_120 {ro : pm_RO} {Q : Option Value → pm_M → Prop} {mem : pm_M} {x1 x2 x3 x4 x5 x6 : Int32} (k : (x5 ≤ x6 → pm_Ex ro m_X10_copy 157 [.ref 33, .int x1, .int x2, .int x3, .int x4, .int x5, .int 0] [] mem Q) ∧ (¬ (x5 ≤ x6) → (pm_inb (((60 * x1) + x2) + x6) 240 = true) ∧ ((pm_inb x6 60 = true) ∧ (pm_Ex ro m_X10_copy 120 [.ref 33, .int x1, .int x2, .int x3, .int x4, .int x5, .int (x6 + 1)] [] (pm_up mem 37 x6.toNatClampNeg (mem 36 ((((60 * x1) + x2) + x6).toNatClampNeg))) Q)))) : pm_Ex ro m_X10_copy 120 [.ref 33, .int x1, .int x2, .int x3, .int x4, .int x5, .int x6] [] mem Q := by
  have hS : pm_sig[m_X10_copy]? = some _ := rfl
  have hC : pm_cod[m_X10_copy]? = some _ := rfl
  refine ex_many (pc' := 124) (ls' := [.ref 33, .int x1, .int x2, .int x3, .int x4, .int x5, .int x6]) (st' := [.int x5, .int x6]) (mem' := mem) hS hC 2 rfl ?_
  refine ex_br (P := x5 ≤ x6) (a := 154) (b := 127) (ls' := [.ref 33, .int x1, .int x2, .int x3, .int x4, .int x5, .int x6]) (st' := []) (mem' := mem) hS hC rfl (fun h => ?_) (fun h => ?_)
  · replace k := k.1 (h)
    refine ex_many (pc' := 157) (ls' := [.ref 33, .int x1, .int x2, .int x3, .int x4, .int x5, .int 0]) (st' := []) (mem' := mem) hS hC 2 rfl ?_
    exact k
  · replace k := k.2 (h)
    refine ex_many (pc' := 146) (ls' := [.ref 33, .int x1, .int x2, .int x3, .int x4, .int x5, .int x6]) (st' := [.int (((60 * x1) + x2) + x6), .ref 36, .int x6, .ref 37]) (mem' := mem) hS hC 12 rfl ?_
    refine ex_grd (b := pm_inb (((60 * x1) + x2) + x6) 240) (pc' := 147) (ls' := [.ref 33, .int x1, .int x2, .int x3, .int x4, .int x5, .int x6]) (st' := [.int (mem 36 ((((60 * x1) + x2) + x6).toNatClampNeg)), .int x6, .ref 37]) (mem' := mem) hS hC rfl k.1 ?_
    replace k := k.2
    refine ex_grd (b := pm_inb x6 60) (pc' := 148) (ls' := [.ref 33, .int x1, .int x2, .int x3, .int x4, .int x5, .int x6]) (st' := []) (mem' := pm_up mem 37 x6.toNatClampNeg (mem 36 ((((60 * x1) + x2) + x6).toNatClampNeg))) hS hC rfl k.1 ?_
    replace k := k.2
    refine ex_many (pc' := 120) (ls' := [.ref 33, .int x1, .int x2, .int x3, .int x4, .int x5, .int (x6 + 1)]) (st' := []) (mem' := pm_up mem 37 x6.toNatClampNeg (mem 36 ((((60 * x1) + x2) + x6).toNatClampNeg))) hS hC 2 rfl ?_
    exact k

set_option maxRecDepth 20000 in
theorem bk_X10_copy_157 {ro : pm_RO} {Q : Option Value → pm_M → Prop} {mem : pm_M} {x1 x2 x3 x4 x5 x6 : Int32} (k : (x5 ≤ x6 → Q (some (.int 1)) mem) ∧ (¬ (x5 ≤ x6) → (pm_inb x6 60 = true) ∧ ((pm_inb (((60 * x3) + x4) + x6) 240 = true) ∧ (pm_Ex ro m_X10_copy 157 [.ref 33, .int x1, .int x2, .int x3, .int x4, .int x5, .int (x6 + 1)] [] (pm_up mem 36 ((((60 * x3) + x4) + x6).toNatClampNeg) (mem 37 x6.toNatClampNeg)) Q)))) : pm_Ex ro m_X10_copy 157 [.ref 33, .int x1, .int x2, .int x3, .int x4, .int x5, .int x6] [] mem Q := by
  have hS : pm_sig[m_X10_copy]? = some _ := rfl
  have hC : pm_cod[m_X10_copy]? = some _ := rfl
  refine ex_many (pc' := 161) (ls' := [.ref 33, .int x1, .int x2, .int x3, .int x4, .int x5, .int x6]) (st' := [.int x5, .int x6]) (mem' := mem) hS hC 2 rfl ?_
  refine ex_br (P := x5 ≤ x6) (a := 192) (b := 164) (ls' := [.ref 33, .int x1, .int x2, .int x3, .int x4, .int x5, .int x6]) (st' := []) (mem' := mem) hS hC rfl (fun h => ?_) (fun h => ?_)
  · replace k := k.1 (h)
    refine ex_many (pc' := 193) (ls' := [.ref 33, .int x1, .int x2, .int x3, .int x4, .int x5, .int x6]) (st' := [.int 1]) (mem' := mem) hS hC 1 rfl ?_
    exact ex_ret (v := (some (.int 1))) hS hC rfl rfl rfl k
  · replace k := k.2 (h)
    refine ex_many (pc' := 184) (ls' := [.ref 33, .int x1, .int x2, .int x3, .int x4, .int x5, .int x6]) (st' := [.int x6, .ref 37, .int (((60 * x3) + x4) + x6), .ref 36]) (mem' := mem) hS hC 12 rfl ?_
    refine ex_grd (b := pm_inb x6 60) (pc' := 185) (ls' := [.ref 33, .int x1, .int x2, .int x3, .int x4, .int x5, .int x6]) (st' := [.int (mem 37 x6.toNatClampNeg), .int (((60 * x3) + x4) + x6), .ref 36]) (mem' := mem) hS hC rfl k.1 ?_
    replace k := k.2
    refine ex_grd (b := pm_inb (((60 * x3) + x4) + x6) 240) (pc' := 186) (ls' := [.ref 33, .int x1, .int x2, .int x3, .int x4, .int x5, .int x6]) (st' := []) (mem' := pm_up mem 36 ((((60 * x3) + x4) + x6).toNatClampNeg) (mem 37 x6.toNatClampNeg)) hS hC rfl k.1 ?_
    replace k := k.2
    refine ex_many (pc' := 157) (ls' := [.ref 33, .int x1, .int x2, .int x3, .int x4, .int x5, .int (x6 + 1)]) (st' := []) (mem' := pm_up mem 36 ((((60 * x3) + x4) + x6).toNatClampNeg) (mem 37 x6.toNatClampNeg)) hS hC 2 rfl ?_
    exact k

set_option maxRecDepth 20000 in
theorem bk_X10_type_0 {ro : pm_RO} {Q : Option Value → pm_M → Prop} {mem : pm_M} {a1 : Int32} (k : (0 ≤ a1 ∧ a1 ≤ 255 → (¬ (mem 33 6) = 50 → (pm_inb (mem 33 6) 50 = true) ∧ (Q (some (.int ((pm_up (pm_up mem 38 ((mem 33 6).toNatClampNeg) a1) 33 6 ((mem 33 6) + 1)) 33 6))) (pm_up (pm_up mem 38 ((mem 33 6).toNatClampNeg) a1) 33 6 ((mem 33 6) + 1)))) ∧ (¬ (¬ (mem 33 6) = 50) → Q (some (.int (-4))) mem)) ∧ (¬ (0 ≤ a1 ∧ a1 ≤ 255) → Q (some (.int (-2))) mem)) : pm_Ex ro m_X10_type 0 [.ref 33, .int a1] [] mem Q := by
  have hS : pm_sig[m_X10_type]? = some _ := rfl
  have hC : pm_cod[m_X10_type]? = some _ := rfl
  refine ex_many (pc' := 6) (ls' := [.ref 33, .int a1]) (st' := [.long 255, .long 0, .long a1.toInt64]) (mem' := mem) hS hC 4 rfl ?_
  refine ex_call (y' := m_X10_in) (rest := []) (ent := [.long a1.toInt64, .null, .long 0, .null, .long 255, .null]) hS hC rfl rfl rfl rfl rfl rfl ?_
  refine sp_in32 (v := a1) (lo := 0) (hi := 255) (by decide) (by decide) ?_
  show pm_Ex ro m_X10_type 9 [.ref 33, .int a1] [.int (zb (0 ≤ a1 ∧ a1 ≤ 255))] mem Q
  refine ex_br (P := ¬ (zb (0 ≤ a1 ∧ a1 ≤ 255)) = 0) (a := 15) (b := 12) (ls' := [.ref 33, .int a1]) (st' := []) (mem' := mem) hS hC rfl (fun h => ?_) (fun h => ?_)
  · replace k := k.1 (zb1 h)
    refine ex_many (pc' := 21) (ls' := [.ref 33, .int a1]) (st' := [.int 50, .int (mem 33 6)]) (mem' := mem) hS hC 3 rfl ?_
    refine ex_br (P := ¬ (mem 33 6) = 50) (a := 27) (b := 24) (ls' := [.ref 33, .int a1]) (st' := []) (mem' := mem) hS hC rfl (fun h => ?_) (fun h => ?_)
    · replace k := k.1 (h)
      refine ex_many (pc' := 36) (ls' := [.ref 33, .int a1]) (st' := [.int a1, .int (mem 33 6), .ref 38]) (mem' := mem) hS hC 5 rfl ?_
      refine ex_grd (b := pm_inb (mem 33 6) 50) (pc' := 37) (ls' := [.ref 33, .int a1]) (st' := []) (mem' := pm_up mem 38 ((mem 33 6).toNatClampNeg) a1) hS hC rfl k.1 ?_
      replace k := k.2
      refine ex_many (pc' := 51) (ls' := [.ref 33, .int a1]) (st' := [.int ((pm_up (pm_up mem 38 ((mem 33 6).toNatClampNeg) a1) 33 6 ((mem 33 6) + 1)) 33 6)]) (mem' := pm_up (pm_up mem 38 ((mem 33 6).toNatClampNeg) a1) 33 6 ((mem 33 6) + 1)) hS hC 8 rfl ?_
      exact ex_ret (v := (some (.int ((pm_up (pm_up mem 38 ((mem 33 6).toNatClampNeg) a1) 33 6 ((mem 33 6) + 1)) 33 6)))) hS hC rfl rfl rfl k
    · replace k := k.2 (h)
      refine ex_many (pc' := 26) (ls' := [.ref 33, .int a1]) (st' := [.int (-4)]) (mem' := mem) hS hC 1 rfl ?_
      exact ex_ret (v := (some (.int (-4)))) hS hC rfl rfl rfl k
  · replace k := k.2 (zb0n h)
    refine ex_many (pc' := 14) (ls' := [.ref 33, .int a1]) (st' := [.int (-2)]) (mem' := mem) hS hC 1 rfl ?_
    exact ex_ret (v := (some (.int (-2)))) hS hC rfl rfl rfl k

set_option maxRecDepth 20000 in
theorem bk_X10_wipe_0 {ro : pm_RO} {Q : Option Value → pm_M → Prop} {mem : pm_M} (k : Q (some (.int (mem 33 6))) (pm_up mem 33 6 0)) : pm_Ex ro m_X10_wipe 0 [.ref 33, .null] [] mem Q := by
  have hS : pm_sig[m_X10_wipe]? = some _ := rfl
  have hC : pm_cod[m_X10_wipe]? = some _ := rfl
  refine ex_many (pc' := 11) (ls' := [.ref 33, .int (mem 33 6)]) (st' := [.int (mem 33 6)]) (mem' := pm_up mem 33 6 0) hS hC 7 rfl ?_
  exact ex_ret (v := (some (.int (mem 33 6)))) hS hC rfl rfl rfl k

set_option maxRecDepth 20000 in
theorem bk_X10_readsPart_0 {ro : pm_RO} {Q : Option Value → pm_M → Prop} {mem : pm_M} (k : (¬ (mem 33 8) = 8 → pm_Ex ro m_X10_readsPart 18 [.ref 33, .int (mem 33 7), .int 0] [] mem Q) ∧ (¬ (¬ (mem 33 8) = 8) → Q (some (.int 0)) mem)) : pm_Ex ro m_X10_readsPart 0 [.ref 33, .null, .null] [] mem Q := by
  have hS : pm_sig[m_X10_readsPart]? = some _ := rfl
  have hC : pm_cod[m_X10_readsPart]? = some _ := rfl
  refine ex_many (pc' := 6) (ls' := [.ref 33, .null, .null]) (st' := [.int 8, .int (mem 33 8)]) (mem' := mem) hS hC 3 rfl ?_
  refine ex_br (P := ¬ (mem 33 8) = 8) (a := 11) (b := 9) (ls' := [.ref 33, .null, .null]) (st' := []) (mem' := mem) hS hC rfl (fun h => ?_) (fun h => ?_)
  · replace k := k.1 (h)
    refine ex_many (pc' := 18) (ls' := [.ref 33, .int (mem 33 7), .int 0]) (st' := []) (mem' := mem) hS hC 5 rfl ?_
    exact k
  · replace k := k.2 (h)
    refine ex_many (pc' := 10) (ls' := [.ref 33, .null, .null]) (st' := [.int 0]) (mem' := mem) hS hC 1 rfl ?_
    exact ex_ret (v := (some (.int 0))) hS hC rfl rfl rfl k

set_option maxRecDepth 20000 in
theorem bk_X10_readsPart_18 {ro : pm_RO} {Q : Option Value → pm_M → Prop} {mem : pm_M} {x1 x2 : Int32} (k : ((x1 + 3) ≤ (mem 33 7) → (¬ x2 = 0 → pm_Ex ro m_X10_here 0 [.ref 33] [] mem (fun v m => pm_Ex ro m_X10_readsPart 86 [.ref 33, .int x1, .int x2] (v.toList ++ []) m Q)) ∧ (¬ (¬ x2 = 0) → Q (some (.int 0)) (pm_up mem 33 7 x1))) ∧ (¬ ((x1 + 3) ≤ (mem 33 7)) → pm_Ex ro m_X10_here 0 [.ref 33] [] mem (fun v m => pm_Ex ro m_X10_readsPart 32 [.ref 33, .int x1, .int x2] (v.toList ++ []) m Q))) : pm_Ex ro m_X10_readsPart 18 [.ref 33, .int x1, .int x2] [] mem Q := by
  have hS : pm_sig[m_X10_readsPart]? = some _ := rfl
  have hC : pm_cod[m_X10_readsPart]? = some _ := rfl
  refine ex_many (pc' := 25) (ls' := [.ref 33, .int x1, .int x2]) (st' := [.int (x1 + 3), .int (mem 33 7)]) (mem' := mem) hS hC 5 rfl ?_
  refine ex_br (P := (x1 + 3) ≤ (mem 33 7)) (a := 71) (b := 28) (ls' := [.ref 33, .int x1, .int x2]) (st' := []) (mem' := mem) hS hC rfl (fun h => ?_) (fun h => ?_)
  · replace k := k.1 (h)
    refine ex_many (pc' := 72) (ls' := [.ref 33, .int x1, .int x2]) (st' := [.int x2]) (mem' := mem) hS hC 1 rfl ?_
    refine ex_br (P := ¬ x2 = 0) (a := 82) (b := 75) (ls' := [.ref 33, .int x1, .int x2]) (st' := []) (mem' := mem) hS hC rfl (fun h => ?_) (fun h => ?_)
    · replace k := k.1 (h)
      refine ex_many (pc' := 83) (ls' := [.ref 33, .int x1, .int x2]) (st' := [.ref 33]) (mem' := mem) hS hC 1 rfl ?_
      refine ex_call (y' := m_X10_here) (rest := []) (ent := [.ref 33]) hS hC rfl rfl rfl rfl rfl rfl ?_
      exact k
    · replace k := k.2 (h)
      refine ex_many (pc' := 81) (ls' := [.ref 33, .int x1, .int x2]) (st' := [.int 0]) (mem' := pm_up mem 33 7 x1) hS hC 4 rfl ?_
      exact ex_ret (v := (some (.int 0))) hS hC rfl rfl rfl k
  · replace k := k.2 (h)
    refine ex_many (pc' := 29) (ls' := [.ref 33, .int x1, .int x2]) (st' := [.ref 33]) (mem' := mem) hS hC 1 rfl ?_
    refine ex_call (y' := m_X10_here) (rest := []) (ent := [.ref 33]) hS hC rfl rfl rfl rfl rfl rfl ?_
    exact k

set_option maxRecDepth 20000 in
theorem bk_X10_readsPart_32 {ro : pm_RO} {Q : Option Value → pm_M → Prop} {mem : pm_M} {x1 x2 s0 : Int32} (k : (48 ≤ s0 ∧ s0 ≤ 57 → pm_Ex ro m_X10_here 0 [.ref 33] [] mem (fun v m => pm_Ex ro m_X10_readsPart 53 [.ref 33, .int x1, .int x2] (v.toList ++ [.int (10 * x2)]) m Q)) ∧ (¬ (48 ≤ s0 ∧ s0 ≤ 57) → (¬ x2 = 0 → pm_Ex ro m_X10_here 0 [.ref 33] [] mem (fun v m => pm_Ex ro m_X10_readsPart 86 [.ref 33, .int x1, .int x2] (v.toList ++ []) m Q)) ∧ (¬ (¬ x2 = 0) → Q (some (.int 0)) (pm_up mem 33 7 x1)))) : pm_Ex ro m_X10_readsPart 32 [.ref 33, .int x1, .int x2] [.int s0] mem Q := by
  have hS : pm_sig[m_X10_readsPart]? = some _ := rfl
  have hC : pm_cod[m_X10_readsPart]? = some _ := rfl
  refine ex_many (pc' := 39) (ls' := [.ref 33, .int x1, .int x2]) (st' := [.long 57, .long 48, .long s0.toInt64]) (mem' := mem) hS hC 3 rfl ?_
  refine ex_call (y' := m_X10_in) (rest := []) (ent := [.long s0.toInt64, .null, .long 48, .null, .long 57, .null]) hS hC rfl rfl rfl rfl rfl rfl ?_
  refine sp_in32 (v := s0) (lo := 48) (hi := 57) (by decide) (by decide) ?_
  show pm_Ex ro m_X10_readsPart 42 [.ref 33, .int x1, .int x2] [.int (zb (48 ≤ s0 ∧ s0 ≤ 57))] mem Q
  refine ex_br (P := (zb (48 ≤ s0 ∧ s0 ≤ 57)) = 0) (a := 71) (b := 45) (ls' := [.ref 33, .int x1, .int x2]) (st' := []) (mem' := mem) hS hC rfl (fun h => ?_) (fun h => ?_)
  · replace k := k.2 (zb0 h)
    refine ex_many (pc' := 72) (ls' := [.ref 33, .int x1, .int x2]) (st' := [.int x2]) (mem' := mem) hS hC 1 rfl ?_
    refine ex_br (P := ¬ x2 = 0) (a := 82) (b := 75) (ls' := [.ref 33, .int x1, .int x2]) (st' := []) (mem' := mem) hS hC rfl (fun h => ?_) (fun h => ?_)
    · replace k := k.1 (h)
      refine ex_many (pc' := 83) (ls' := [.ref 33, .int x1, .int x2]) (st' := [.ref 33]) (mem' := mem) hS hC 1 rfl ?_
      refine ex_call (y' := m_X10_here) (rest := []) (ent := [.ref 33]) hS hC rfl rfl rfl rfl rfl rfl ?_
      exact k
    · replace k := k.2 (h)
      refine ex_many (pc' := 81) (ls' := [.ref 33, .int x1, .int x2]) (st' := [.int 0]) (mem' := pm_up mem 33 7 x1) hS hC 4 rfl ?_
      exact ex_ret (v := (some (.int 0))) hS hC rfl rfl rfl k
  · replace k := k.1 (zb1 h)
    refine ex_many (pc' := 50) (ls' := [.ref 33, .int x1, .int x2]) (st' := [.ref 33, .int (10 * x2)]) (mem' := mem) hS hC 4 rfl ?_
    refine ex_call (y' := m_X10_here) (rest := [.int (10 * x2)]) (ent := [.ref 33]) hS hC rfl rfl rfl rfl rfl rfl ?_
    exact k

set_option maxRecDepth 20000 in
theorem bk_X10_readsPart_86 {ro : pm_RO} {Q : Option Value → pm_M → Prop} {mem : pm_M} {x1 x2 s0 : Int32} (k : (s0 = 119 → (pm_inb (mem 33 8) 8 = true) ∧ (pm_Ex ro m_X10_here 0 [.ref 33] [] (pm_up mem 39 ((mem 33 8).toNatClampNeg) x2) (fun v m => pm_Ex ro m_X10_readsPart 121 [.ref 33, .int x1, .int x2] (v.toList ++ [.int (mem 33 10), .ref 33]) m Q))) ∧ (¬ (s0 = 119) → pm_Ex ro m_X10_here 0 [.ref 33] [] mem (fun v m => pm_Ex ro m_X10_readsPart 95 [.ref 33, .int x1, .int x2] (v.toList ++ []) m Q))) : pm_Ex ro m_X10_readsPart 86 [.ref 33, .int x1, .int x2] [.int s0] mem Q := by
  have hS : pm_sig[m_X10_readsPart]? = some _ := rfl
  have hC : pm_cod[m_X10_readsPart]? = some _ := rfl
  refine ex_many (pc' := 88) (ls' := [.ref 33, .int x1, .int x2]) (st' := [.int 119, .int s0]) (mem' := mem) hS hC 1 rfl ?_
  refine ex_br (P := s0 = 119) (a := 102) (b := 91) (ls' := [.ref 33, .int x1, .int x2]) (st' := []) (mem' := mem) hS hC rfl (fun h => ?_) (fun h => ?_)
  · replace k := k.1 (h)
    refine ex_many (pc' := 111) (ls' := [.ref 33, .int x1, .int x2]) (st' := [.int x2, .int (mem 33 8), .ref 39]) (mem' := mem) hS hC 5 rfl ?_
    refine ex_grd (b := pm_inb (mem 33 8) 8) (pc' := 112) (ls' := [.ref 33, .int x1, .int x2]) (st' := []) (mem' := pm_up mem 39 ((mem 33 8).toNatClampNeg) x2) hS hC rfl k.1 ?_
    replace k := k.2
    refine ex_many (pc' := 118) (ls' := [.ref 33, .int x1, .int x2]) (st' := [.ref 33, .int (mem 33 10), .ref 33]) (mem' := pm_up mem 39 ((mem 33 8).toNatClampNeg) x2) hS hC 4 rfl ?_
    refine ex_call (y' := m_X10_here) (rest := [.int (mem 33 10), .ref 33]) (ent := [.ref 33]) hS hC rfl rfl rfl rfl rfl rfl ?_
    exact k
  · replace k := k.2 (h)
    refine ex_many (pc' := 92) (ls' := [.ref 33, .int x1, .int x2]) (st' := [.ref 33]) (mem' := mem) hS hC 1 rfl ?_
    refine ex_call (y' := m_X10_here) (rest := []) (ent := [.ref 33]) hS hC rfl rfl rfl rfl rfl rfl ?_
    exact k

set_option maxRecDepth 20000 in
theorem bk_X10_readsPart_53 {ro : pm_RO} {Q : Option Value → pm_M → Prop} {mem : pm_M} {x1 x2 s0 s1 : Int32} (k : pm_Ex ro m_X10_readsPart 18 [.ref 33, .int x1, .int ((s1 + s0) - 48)] [] (pm_up mem 33 7 ((mem 33 7) + 1)) Q) : pm_Ex ro m_X10_readsPart 53 [.ref 33, .int x1, .int x2] [.int s0, .int s1] mem Q := by
  have hS : pm_sig[m_X10_readsPart]? = some _ := rfl
  have hC : pm_cod[m_X10_readsPart]? = some _ := rfl
  refine ex_many (pc' := 18) (ls' := [.ref 33, .int x1, .int ((s1 + s0) - 48)]) (st' := []) (mem' := pm_up mem 33 7 ((mem 33 7) + 1)) hS hC 11 rfl ?_
  exact k

set_option maxRecDepth 20000 in
theorem bk_X10_readsPart_95 {ro : pm_RO} {Q : Option Value → pm_M → Prop} {mem : pm_M} {x1 x2 s0 : Int32} (k : (s0 = 116 → (pm_inb (mem 33 8) 8 = true) ∧ (pm_Ex ro m_X10_here 0 [.ref 33] [] (pm_up mem 39 ((mem 33 8).toNatClampNeg) x2) (fun v m => pm_Ex ro m_X10_readsPart 121 [.ref 33, .int x1, .int x2] (v.toList ++ [.int (mem 33 10), .ref 33]) m Q))) ∧ (¬ (s0 = 116) → Q (some (.int 0)) mem)) : pm_Ex ro m_X10_readsPart 95 [.ref 33, .int x1, .int x2] [.int s0] mem Q := by
  have hS : pm_sig[m_X10_readsPart]? = some _ := rfl
  have hC : pm_cod[m_X10_readsPart]? = some _ := rfl
  refine ex_many (pc' := 97) (ls' := [.ref 33, .int x1, .int x2]) (st' := [.int 116, .int s0]) (mem' := mem) hS hC 1 rfl ?_
  refine ex_br (P := s0 = 116) (a := 102) (b := 100) (ls' := [.ref 33, .int x1, .int x2]) (st' := []) (mem' := mem) hS hC rfl (fun h => ?_) (fun h => ?_)
  · replace k := k.1 (h)
    refine ex_many (pc' := 111) (ls' := [.ref 33, .int x1, .int x2]) (st' := [.int x2, .int (mem 33 8), .ref 39]) (mem' := mem) hS hC 5 rfl ?_
    refine ex_grd (b := pm_inb (mem 33 8) 8) (pc' := 112) (ls' := [.ref 33, .int x1, .int x2]) (st' := []) (mem' := pm_up mem 39 ((mem 33 8).toNatClampNeg) x2) hS hC rfl k.1 ?_
    replace k := k.2
    refine ex_many (pc' := 118) (ls' := [.ref 33, .int x1, .int x2]) (st' := [.ref 33, .int (mem 33 10), .ref 33]) (mem' := pm_up mem 39 ((mem 33 8).toNatClampNeg) x2) hS hC 4 rfl ?_
    refine ex_call (y' := m_X10_here) (rest := [.int (mem 33 10), .ref 33]) (ent := [.ref 33]) hS hC rfl rfl rfl rfl rfl rfl ?_
    exact k
  · replace k := k.2 (h)
    refine ex_many (pc' := 101) (ls' := [.ref 33, .int x1, .int x2]) (st' := [.int 0]) (mem' := mem) hS hC 1 rfl ?_
    exact ex_ret (v := (some (.int 0))) hS hC rfl rfl rfl k

set_option maxRecDepth 20000 in
theorem bk_X10_readsPart_121 {ro : pm_RO} {Q : Option Value → pm_M → Prop} {mem : pm_M} {x1 x2 s0 s1 : Int32} (k : Q (some (.int 1)) (pm_up (pm_up (pm_up mem 33 10 (s1 ||| (if ¬ s0 = 119 then 0 else (1 : Int32) <<< ((mem 33 8) &&& 31) : Int32))) 33 7 (((pm_up mem 33 10 (s1 ||| (if ¬ s0 = 119 then 0 else (1 : Int32) <<< ((mem 33 8) &&& 31) : Int32))) 33 7) + 1)) 33 8 (((pm_up (pm_up mem 33 10 (s1 ||| (if ¬ s0 = 119 then 0 else (1 : Int32) <<< ((mem 33 8) &&& 31) : Int32))) 33 7 (((pm_up mem 33 10 (s1 ||| (if ¬ s0 = 119 then 0 else (1 : Int32) <<< ((mem 33 8) &&& 31) : Int32))) 33 7) + 1)) 33 8) + 1))) : pm_Ex ro m_X10_readsPart 121 [.ref 33, .int x1, .int x2] [.int s0, .int s1, .ref 33] mem Q := by
  have hS : pm_sig[m_X10_readsPart]? = some _ := rfl
  have hC : pm_cod[m_X10_readsPart]? = some _ := rfl
  refine ex_many (pc' := 123) (ls' := [.ref 33, .int x1, .int x2]) (st' := [.int 119, .int s0, .int s1, .ref 33]) (mem' := mem) hS hC 1 rfl ?_
  have kp7 : pm_Ex ro m_X10_readsPart 136 [.ref 33, .int x1, .int x2] [.int (if ¬ s0 = 119 then 0 else (1 : Int32) <<< ((mem 33 8) &&& 31) : Int32), .int s1, .ref 33] mem Q := by
    refine ex_many (pc' := 161) (ls' := [.ref 33, .int x1, .int x2]) (st' := [.int 1]) (mem' := pm_up (pm_up (pm_up mem 33 10 (s1 ||| (if ¬ s0 = 119 then 0 else (1 : Int32) <<< ((mem 33 8) &&& 31) : Int32))) 33 7 (((pm_up mem 33 10 (s1 ||| (if ¬ s0 = 119 then 0 else (1 : Int32) <<< ((mem 33 8) &&& 31) : Int32))) 33 7) + 1)) 33 8 (((pm_up (pm_up mem 33 10 (s1 ||| (if ¬ s0 = 119 then 0 else (1 : Int32) <<< ((mem 33 8) &&& 31) : Int32))) 33 7 (((pm_up mem 33 10 (s1 ||| (if ¬ s0 = 119 then 0 else (1 : Int32) <<< ((mem 33 8) &&& 31) : Int32))) 33 7) + 1)) 33 8) + 1)) hS hC 15 rfl ?_
    exact ex_ret (v := (some (.int 1))) hS hC rfl rfl rfl k
  refine ex_br (P := ¬ s0 = 119) (a := 135) (b := 126) (ls' := [.ref 33, .int x1, .int x2]) (st' := [.int s1, .ref 33]) (mem' := mem) hS hC rfl (fun h => ?_) (fun h => ?_)
  · have kp7a : pm_Ex ro m_X10_readsPart 136 [.ref 33, .int x1, .int x2] [.int 0, .int s1, .ref 33] mem Q := pm_phi1 (f := fun z0 => pm_Ex ro m_X10_readsPart 136 [.ref 33, .int x1, .int x2] [.int z0, .int s1, .ref 33] mem Q) (if_pos (h)) kp7
    refine ex_many (pc' := 136) (ls' := [.ref 33, .int x1, .int x2]) (st' := [.int 0, .int s1, .ref 33]) (mem' := mem) hS hC 1 rfl ?_
    exact kp7a
  · have kp7b : pm_Ex ro m_X10_readsPart 136 [.ref 33, .int x1, .int x2] [.int ((1 : Int32) <<< ((mem 33 8) &&& 31)), .int s1, .ref 33] mem Q := pm_phi1 (f := fun z0 => pm_Ex ro m_X10_readsPart 136 [.ref 33, .int x1, .int x2] [.int z0, .int s1, .ref 33] mem Q) (if_neg (h)) kp7
    refine ex_many (pc' := 136) (ls' := [.ref 33, .int x1, .int x2]) (st' := [.int ((1 : Int32) <<< ((mem 33 8) &&& 31)), .int s1, .ref 33]) (mem' := mem) hS hC 5 rfl ?_
    exact kp7b

set_option maxRecDepth 20000 in
theorem bk_X10_reads_0 {ro : pm_RO} {Q : Option Value → pm_M → Prop} {mem : pm_M} (k : pm_Ex ro m_X10_reads 28 [.ref 33, .int (zb (¬ (((pm_up (pm_up (pm_up mem 33 7 0) 33 8 0) 33 10 0) 33 6) ≤ 0)))] [] (pm_up (pm_up (pm_up mem 33 7 0) 33 8 0) 33 10 0) Q) : pm_Ex ro m_X10_reads 0 [.ref 33, .null] [] mem Q := by
  have hS : pm_sig[m_X10_reads]? = some _ := rfl
  have hC : pm_cod[m_X10_reads]? = some _ := rfl
  refine ex_many (pc' := 19) (ls' := [.ref 33, .null]) (st' := [.int ((pm_up (pm_up (pm_up mem 33 7 0) 33 8 0) 33 10 0) 33 6)]) (mem' := pm_up (pm_up (pm_up mem 33 7 0) 33 8 0) 33 10 0) hS hC 11 rfl ?_
  have kp8 : pm_Ex ro m_X10_reads 27 [.ref 33, .null] [.int (zb (¬ (((pm_up (pm_up (pm_up mem 33 7 0) 33 8 0) 33 10 0) 33 6) ≤ 0)))] (pm_up (pm_up (pm_up mem 33 7 0) 33 8 0) 33 10 0) Q := by
    refine ex_many (pc' := 28) (ls' := [.ref 33, .int (zb (¬ (((pm_up (pm_up (pm_up mem 33 7 0) 33 8 0) 33 10 0) 33 6) ≤ 0)))]) (st' := []) (mem' := pm_up (pm_up (pm_up mem 33 7 0) 33 8 0) 33 10 0) hS hC 1 rfl ?_
    exact k
  refine ex_br (P := ((pm_up (pm_up (pm_up mem 33 7 0) 33 8 0) 33 10 0) 33 6) ≤ 0) (a := 26) (b := 22) (ls' := [.ref 33, .null]) (st' := []) (mem' := pm_up (pm_up (pm_up mem 33 7 0) 33 8 0) 33 10 0) hS hC rfl (fun h => ?_) (fun h => ?_)
  · have kp8a : pm_Ex ro m_X10_reads 27 [.ref 33, .null] [.int 0] (pm_up (pm_up (pm_up mem 33 7 0) 33 8 0) 33 10 0) Q := pm_phi1 (f := fun z0 => pm_Ex ro m_X10_reads 27 [.ref 33, .null] [.int z0] (pm_up (pm_up (pm_up mem 33 7 0) 33 8 0) 33 10 0) Q) (zb_npos (h)) kp8
    refine ex_many (pc' := 27) (ls' := [.ref 33, .null]) (st' := [.int 0]) (mem' := pm_up (pm_up (pm_up mem 33 7 0) 33 8 0) 33 10 0) hS hC 1 rfl ?_
    exact kp8a
  · have kp8b : pm_Ex ro m_X10_reads 27 [.ref 33, .null] [.int 1] (pm_up (pm_up (pm_up mem 33 7 0) 33 8 0) 33 10 0) Q := pm_phi1 (f := fun z0 => pm_Ex ro m_X10_reads 27 [.ref 33, .null] [.int z0] (pm_up (pm_up (pm_up mem 33 7 0) 33 8 0) 33 10 0) Q) (zb_nneg (h)) kp8
    refine ex_many (pc' := 27) (ls' := [.ref 33, .null]) (st' := [.int 1]) (mem' := pm_up (pm_up (pm_up mem 33 7 0) 33 8 0) 33 10 0) hS hC 2 rfl ?_
    exact kp8b

set_option maxRecDepth 20000 in
theorem bk_X10_reads_28 {ro : pm_RO} {Q : Option Value → pm_M → Prop} {mem : pm_M} {x1 : Int32} (k : (x1 = 0 → Q (some (.int (-1))) mem) ∧ (¬ (x1 = 0) → pm_Ex ro m_X10_readsPart 0 [.ref 33, .null, .null] [] mem (fun v m => pm_Ex ro m_X10_reads 36 [.ref 33, .int x1] (v.toList ++ []) m Q))) : pm_Ex ro m_X10_reads 28 [.ref 33, .int x1] [] mem Q := by
  have hS : pm_sig[m_X10_reads]? = some _ := rfl
  have hC : pm_cod[m_X10_reads]? = some _ := rfl
  refine ex_many (pc' := 29) (ls' := [.ref 33, .int x1]) (st' := [.int x1]) (mem' := mem) hS hC 1 rfl ?_
  refine ex_br (P := x1 = 0) (a := 100) (b := 32) (ls' := [.ref 33, .int x1]) (st' := []) (mem' := mem) hS hC rfl (fun h => ?_) (fun h => ?_)
  · replace k := k.1 (h)
    refine ex_many (pc' := 101) (ls' := [.ref 33, .int x1]) (st' := [.int (-1)]) (mem' := mem) hS hC 1 rfl ?_
    exact ex_ret (v := (some (.int (-1)))) hS hC rfl rfl rfl k
  · replace k := k.2 (h)
    refine ex_many (pc' := 33) (ls' := [.ref 33, .int x1]) (st' := [.ref 33]) (mem' := mem) hS hC 1 rfl ?_
    refine ex_call (y' := m_X10_readsPart) (rest := []) (ent := [.ref 33, .null, .null]) hS hC rfl rfl rfl rfl rfl rfl ?_
    exact k

set_option maxRecDepth 20000 in
theorem bk_X10_reads_36 {ro : pm_RO} {Q : Option Value → pm_M → Prop} {mem : pm_M} {x1 s0 : Int32} (k : (¬ s0 = 0 → (¬ ((mem 33 6) ≤ (mem 33 7)) → pm_Ex ro m_X10_here 0 [.ref 33] [] mem (fun v m => pm_Ex ro m_X10_reads 69 [.ref 33, .int (zb (¬ ((mem 33 6) ≤ (mem 33 7))))] (v.toList ++ []) m Q)) ∧ (¬ (¬ ((mem 33 6) ≤ (mem 33 7))) → pm_Ex ro m_X10_reads 28 [.ref 33, .int (zb (¬ ((mem 33 6) ≤ (mem 33 7))))] [] (pm_up mem 33 7 ((mem 33 7) + (zb (¬ ((mem 33 6) ≤ (mem 33 7)))))) Q)) ∧ (¬ (¬ s0 = 0) → Q (some (.int ((pm_up (pm_up mem 33 8 0) 33 10 0) 33 7))) (pm_up (pm_up mem 33 8 0) 33 10 0))) : pm_Ex ro m_X10_reads 36 [.ref 33, .int x1] [.int s0] mem Q := by
  have hS : pm_sig[m_X10_reads]? = some _ := rfl
  have hC : pm_cod[m_X10_reads]? = some _ := rfl
  refine ex_br (P := ¬ s0 = 0) (a := 44) (b := 39) (ls' := [.ref 33, .int x1]) (st' := []) (mem' := mem) hS hC rfl (fun h => ?_) (fun h => ?_)
  · replace k := k.1 (h)
    refine ex_many (pc' := 52) (ls' := [.ref 33, .int x1]) (st' := [.int (mem 33 6), .int (mem 33 7)]) (mem' := mem) hS hC 4 rfl ?_
    have kp10 : pm_Ex ro m_X10_reads 60 [.ref 33, .int x1] [.int (zb (¬ ((mem 33 6) ≤ (mem 33 7))))] mem Q := by
      refine ex_many (pc' := 62) (ls' := [.ref 33, .int (zb (¬ ((mem 33 6) ≤ (mem 33 7))))]) (st' := [.int (zb (¬ ((mem 33 6) ≤ (mem 33 7))))]) (mem' := mem) hS hC 2 rfl ?_
      refine ex_br (P := (zb (¬ ((mem 33 6) ≤ (mem 33 7)))) = 0) (a := 79) (b := 65) (ls' := [.ref 33, .int (zb (¬ ((mem 33 6) ≤ (mem 33 7))))]) (st' := []) (mem' := mem) hS hC rfl (fun h => ?_) (fun h => ?_)
      · replace k := k.2 (zb0 h)
        refine ex_many (pc' := 85) (ls' := [.ref 33, .int (zb (¬ ((mem 33 6) ≤ (mem 33 7))))]) (st' := [.int (zb (¬ ((mem 33 6) ≤ (mem 33 7)))), .int (mem 33 7), .ref 33]) (mem' := mem) hS hC 4 rfl ?_
        have kp9 : pm_Ex ro m_X10_reads 93 [.ref 33, .int (zb (¬ ((mem 33 6) ≤ (mem 33 7))))] [.int (zb (¬ ((mem 33 6) ≤ (mem 33 7)))), .int (mem 33 7), .ref 33] mem Q := by
          refine ex_many (pc' := 28) (ls' := [.ref 33, .int (zb (¬ ((mem 33 6) ≤ (mem 33 7))))]) (st' := []) (mem' := pm_up mem 33 7 ((mem 33 7) + (zb (¬ ((mem 33 6) ≤ (mem 33 7)))))) hS hC 3 rfl ?_
          exact k
        refine ex_br (P := (zb (¬ ((mem 33 6) ≤ (mem 33 7)))) = 0) (a := 92) (b := 88) (ls' := [.ref 33, .int (zb (¬ ((mem 33 6) ≤ (mem 33 7))))]) (st' := [.int (mem 33 7), .ref 33]) (mem' := mem) hS hC rfl (fun h => ?_) (fun h => ?_)
        · have kp9a : pm_Ex ro m_X10_reads 93 [.ref 33, .int (zb (¬ ((mem 33 6) ≤ (mem 33 7))))] [.int 0, .int (mem 33 7), .ref 33] mem Q := pm_phi1 (f := fun z0 => pm_Ex ro m_X10_reads 93 [.ref 33, .int (zb (¬ ((mem 33 6) ≤ (mem 33 7))))] [.int z0, .int (mem 33 7), .ref 33] mem Q) (zb_neg (zb0 h)) kp9
          refine ex_many (pc' := 93) (ls' := [.ref 33, .int (zb (¬ ((mem 33 6) ≤ (mem 33 7))))]) (st' := [.int 0, .int (mem 33 7), .ref 33]) (mem' := mem) hS hC 1 rfl ?_
          exact kp9a
        · have kp9b : pm_Ex ro m_X10_reads 93 [.ref 33, .int (zb (¬ ((mem 33 6) ≤ (mem 33 7))))] [.int 1, .int (mem 33 7), .ref 33] mem Q := pm_phi1 (f := fun z0 => pm_Ex ro m_X10_reads 93 [.ref 33, .int (zb (¬ ((mem 33 6) ≤ (mem 33 7))))] [.int z0, .int (mem 33 7), .ref 33] mem Q) (zb_pos (zb1 h)) kp9
          refine ex_many (pc' := 93) (ls' := [.ref 33, .int (zb (¬ ((mem 33 6) ≤ (mem 33 7))))]) (st' := [.int 1, .int (mem 33 7), .ref 33]) (mem' := mem) hS hC 2 rfl ?_
          exact kp9b
      · replace k := k.1 (zb1 h)
        refine ex_many (pc' := 66) (ls' := [.ref 33, .int (zb (¬ ((mem 33 6) ≤ (mem 33 7))))]) (st' := [.ref 33]) (mem' := mem) hS hC 1 rfl ?_
        refine ex_call (y' := m_X10_here) (rest := []) (ent := [.ref 33]) hS hC rfl rfl rfl rfl rfl rfl ?_
        exact k
    refine ex_br (P := (mem 33 6) ≤ (mem 33 7)) (a := 59) (b := 55) (ls' := [.ref 33, .int x1]) (st' := []) (mem' := mem) hS hC rfl (fun h => ?_) (fun h => ?_)
    · have kp10a : pm_Ex ro m_X10_reads 60 [.ref 33, .int x1] [.int 0] mem Q := pm_phi1 (f := fun z0 => pm_Ex ro m_X10_reads 60 [.ref 33, .int x1] [.int z0] mem Q) (zb_npos (h)) kp10
      refine ex_many (pc' := 60) (ls' := [.ref 33, .int x1]) (st' := [.int 0]) (mem' := mem) hS hC 1 rfl ?_
      exact kp10a
    · have kp10b : pm_Ex ro m_X10_reads 60 [.ref 33, .int x1] [.int 1] mem Q := pm_phi1 (f := fun z0 => pm_Ex ro m_X10_reads 60 [.ref 33, .int x1] [.int z0] mem Q) (zb_nneg (h)) kp10
      refine ex_many (pc' := 60) (ls' := [.ref 33, .int x1]) (st' := [.int 1]) (mem' := mem) hS hC 2 rfl ?_
      exact kp10b
  · replace k := k.2 (h)
    refine ex_many (pc' := 40) (ls' := [.ref 33, .int x1]) (st' := [.ref 33]) (mem' := mem) hS hC 1 rfl ?_
    refine ex_call (y' := m_X10_none) (rest := []) (ent := [.ref 33]) hS hC rfl rfl rfl rfl rfl rfl ?_
    refine bk_X10_none_0 ?_
    show pm_Ex ro m_X10_reads 43 [.ref 33, .int x1] [.int ((pm_up (pm_up mem 33 8 0) 33 10 0) 33 7)] (pm_up (pm_up mem 33 8 0) 33 10 0) Q
    exact ex_ret (v := (some (.int ((pm_up (pm_up mem 33 8 0) 33 10 0) 33 7)))) hS hC rfl rfl rfl k

set_option maxRecDepth 20000 in
theorem bk_X10_reads_69 {ro : pm_RO} {Q : Option Value → pm_M → Prop} {mem : pm_M} {x1 s0 : Int32} (k : (s0 = 59 → pm_Ex ro m_X10_reads 28 [.ref 33, .int x1] [] (pm_up mem 33 7 ((mem 33 7) + (zb (¬ (x1 = 0))))) Q) ∧ (¬ (s0 = 59) → Q (some (.int ((pm_up (pm_up mem 33 8 0) 33 10 0) 33 7))) (pm_up (pm_up mem 33 8 0) 33 10 0))) : pm_Ex ro m_X10_reads 69 [.ref 33, .int x1] [.int s0] mem Q := by
  have hS : pm_sig[m_X10_reads]? = some _ := rfl
  have hC : pm_cod[m_X10_reads]? = some _ := rfl
  refine ex_many (pc' := 71) (ls' := [.ref 33, .int x1]) (st' := [.int 59, .int s0]) (mem' := mem) hS hC 1 rfl ?_
  refine ex_br (P := s0 = 59) (a := 79) (b := 74) (ls' := [.ref 33, .int x1]) (st' := []) (mem' := mem) hS hC rfl (fun h => ?_) (fun h => ?_)
  · replace k := k.1 (h)
    refine ex_many (pc' := 85) (ls' := [.ref 33, .int x1]) (st' := [.int x1, .int (mem 33 7), .ref 33]) (mem' := mem) hS hC 4 rfl ?_
    have kp11 : pm_Ex ro m_X10_reads 93 [.ref 33, .int x1] [.int (zb (¬ (x1 = 0))), .int (mem 33 7), .ref 33] mem Q := by
      refine ex_many (pc' := 28) (ls' := [.ref 33, .int x1]) (st' := []) (mem' := pm_up mem 33 7 ((mem 33 7) + (zb (¬ (x1 = 0))))) hS hC 3 rfl ?_
      exact k
    refine ex_br (P := x1 = 0) (a := 92) (b := 88) (ls' := [.ref 33, .int x1]) (st' := [.int (mem 33 7), .ref 33]) (mem' := mem) hS hC rfl (fun h => ?_) (fun h => ?_)
    · have kp11a : pm_Ex ro m_X10_reads 93 [.ref 33, .int x1] [.int 0, .int (mem 33 7), .ref 33] mem Q := pm_phi1 (f := fun z0 => pm_Ex ro m_X10_reads 93 [.ref 33, .int x1] [.int z0, .int (mem 33 7), .ref 33] mem Q) (zb_npos (h)) kp11
      refine ex_many (pc' := 93) (ls' := [.ref 33, .int x1]) (st' := [.int 0, .int (mem 33 7), .ref 33]) (mem' := mem) hS hC 1 rfl ?_
      exact kp11a
    · have kp11b : pm_Ex ro m_X10_reads 93 [.ref 33, .int x1] [.int 1, .int (mem 33 7), .ref 33] mem Q := pm_phi1 (f := fun z0 => pm_Ex ro m_X10_reads 93 [.ref 33, .int x1] [.int z0, .int (mem 33 7), .ref 33] mem Q) (zb_nneg (h)) kp11
      refine ex_many (pc' := 93) (ls' := [.ref 33, .int x1]) (st' := [.int 1, .int (mem 33 7), .ref 33]) (mem' := mem) hS hC 2 rfl ?_
      exact kp11b
  · replace k := k.2 (h)
    refine ex_many (pc' := 75) (ls' := [.ref 33, .int x1]) (st' := [.ref 33]) (mem' := mem) hS hC 1 rfl ?_
    refine ex_call (y' := m_X10_none) (rest := []) (ent := [.ref 33]) hS hC rfl rfl rfl rfl rfl rfl ?_
    refine bk_X10_none_0 ?_
    show pm_Ex ro m_X10_reads 78 [.ref 33, .int x1] [.int ((pm_up (pm_up mem 33 8 0) 33 10 0) 33 7)] (pm_up (pm_up mem 33 8 0) 33 10 0) Q
    exact ex_ret (v := (some (.int ((pm_up (pm_up mem 33 8 0) 33 10 0) 33 7)))) hS hC rfl rfl rfl k

set_option maxRecDepth 20000 in
theorem bk_X10_fault_0 {ro : pm_RO} {Q : Option Value → pm_M → Prop} {mem : pm_M} (k : pm_Ex ro m_X10_reads 0 [.ref 33, .null] [] mem (fun v m => pm_Ex ro m_X10_fault 4 [.ref 33] (v.toList ++ []) m Q)) : pm_Ex ro m_X10_fault 0 [.ref 33] [] mem Q := by
  have hS : pm_sig[m_X10_fault]? = some _ := rfl
  have hC : pm_cod[m_X10_fault]? = some _ := rfl
  refine ex_many (pc' := 1) (ls' := [.ref 33]) (st' := [.ref 33]) (mem' := mem) hS hC 1 rfl ?_
  refine ex_call (y' := m_X10_reads) (rest := []) (ent := [.ref 33, .null]) hS hC rfl rfl rfl rfl rfl rfl ?_
  exact k

set_option maxRecDepth 20000 in
theorem bk_X10_fault_4 {ro : pm_RO} {Q : Option Value → pm_M → Prop} {mem : pm_M} {s0 : Int32} (k : Q (some (.int s0)) mem) : pm_Ex ro m_X10_fault 4 [.ref 33] [.int s0] mem Q := by
  have hS : pm_sig[m_X10_fault]? = some _ := rfl
  have hC : pm_cod[m_X10_fault]? = some _ := rfl
  exact ex_ret (v := (some (.int s0))) hS hC rfl rfl rfl k

set_option maxRecDepth 20000 in
theorem bk_X10_isGood_0 {ro : pm_RO} {Q : Option Value → pm_M → Prop} {mem : pm_M} {a1 : Int32} (k : pm_Ex ro m_X10_reads 0 [.ref 33, .null] [] mem (fun v m => pm_Ex ro m_X10_isGood 4 [.ref 33, .int a1] (v.toList ++ []) m Q)) : pm_Ex ro m_X10_isGood 0 [.ref 33, .int a1] [] mem Q := by
  have hS : pm_sig[m_X10_isGood]? = some _ := rfl
  have hC : pm_cod[m_X10_isGood]? = some _ := rfl
  refine ex_many (pc' := 1) (ls' := [.ref 33, .int a1]) (st' := [.ref 33]) (mem' := mem) hS hC 1 rfl ?_
  refine ex_call (y' := m_X10_reads) (rest := []) (ent := [.ref 33, .null]) hS hC rfl rfl rfl rfl rfl rfl ?_
  exact k

set_option maxRecDepth 20000 in
theorem bk_X10_isGood_4 {ro : pm_RO} {Q : Option Value → pm_M → Prop} {mem : pm_M} {x1 s0 : Int32} (k : Q (some (.int (zb (0 ≤ x1 ∧ x1 ≤ ((mem 33 8) - 1))))) mem) : pm_Ex ro m_X10_isGood 4 [.ref 33, .int x1] [.int s0] mem Q := by
  have hS : pm_sig[m_X10_isGood]? = some _ := rfl
  have hC : pm_cod[m_X10_isGood]? = some _ := rfl
  refine ex_many (pc' := 15) (ls' := [.ref 33, .int x1]) (st' := [.long (((mem 33 8) - 1).toInt64), .long 0, .long x1.toInt64]) (mem' := mem) hS hC 9 rfl ?_
  refine ex_call (y' := m_X10_in) (rest := []) (ent := [.long x1.toInt64, .null, .long 0, .null, .long (((mem 33 8) - 1).toInt64), .null]) hS hC rfl rfl rfl rfl rfl rfl ?_
  refine sp_in32 (v := x1) (lo := 0) (hi := ((mem 33 8) - 1)) (by decide) rfl ?_
  show pm_Ex ro m_X10_isGood 18 [.ref 33, .int x1] [.int (zb (0 ≤ x1 ∧ x1 ≤ ((mem 33 8) - 1)))] mem Q
  exact ex_retz hS hC rfl rfl rfl (zb_01 _) k

set_option maxRecDepth 20000 in
theorem bk_X10_goodOf_0 {ro : pm_RO} {Q : Option Value → pm_M → Prop} {mem : pm_M} {a1 a2 : Int32} (k : (¬ a2 = 0 → (¬ a2 = 1 → (pm_inb a1 8 = true) ∧ (Q (some (.int (mem 40 a1.toNatClampNeg))) mem)) ∧ (¬ (¬ a2 = 1) → Q (some (.int (((mem 33 10) >>> (a1 &&& 31)) &&& 1))) mem)) ∧ (¬ (¬ a2 = 0) → (pm_inb a1 8 = true) ∧ (Q (some (.int (mem 39 a1.toNatClampNeg))) mem))) : pm_Ex ro m_X10_goodOf 0 [.ref 33, .int a1, .int a2] [] mem Q := by
  have hS : pm_sig[m_X10_goodOf]? = some _ := rfl
  have hC : pm_cod[m_X10_goodOf]? = some _ := rfl
  refine ex_many (pc' := 1) (ls' := [.ref 33, .int a1, .int a2]) (st' := [.int a2]) (mem' := mem) hS hC 1 rfl ?_
  refine ex_br (P := ¬ a2 = 0) (a := 13) (b := 4) (ls' := [.ref 33, .int a1, .int a2]) (st' := []) (mem' := mem) hS hC rfl (fun h => ?_) (fun h => ?_)
  · replace k := k.1 (h)
    refine ex_many (pc' := 15) (ls' := [.ref 33, .int a1, .int a2]) (st' := [.int 1, .int a2]) (mem' := mem) hS hC 2 rfl ?_
    refine ex_br (P := ¬ a2 = 1) (a := 29) (b := 18) (ls' := [.ref 33, .int a1, .int a2]) (st' := []) (mem' := mem) hS hC rfl (fun h => ?_) (fun h => ?_)
    · replace k := k.1 (h)
      refine ex_many (pc' := 34) (ls' := [.ref 33, .int a1, .int a2]) (st' := [.int a1, .ref 40]) (mem' := mem) hS hC 3 rfl ?_
      refine ex_grd (b := pm_inb a1 8) (pc' := 35) (ls' := [.ref 33, .int a1, .int a2]) (st' := [.int (mem 40 a1.toNatClampNeg)]) (mem' := mem) hS hC rfl k.1 ?_
      replace k := k.2
      exact ex_ret (v := (some (.int (mem 40 a1.toNatClampNeg)))) hS hC rfl rfl rfl k
    · replace k := k.2 (h)
      refine ex_many (pc' := 35) (ls' := [.ref 33, .int a1, .int a2]) (st' := [.int (((mem 33 10) >>> (a1 &&& 31)) &&& 1)]) (mem' := mem) hS hC 7 rfl ?_
      exact ex_ret (v := (some (.int (((mem 33 10) >>> (a1 &&& 31)) &&& 1)))) hS hC rfl rfl rfl k
  · replace k := k.2 (h)
    refine ex_many (pc' := 9) (ls' := [.ref 33, .int a1, .int a2]) (st' := [.int a1, .ref 39]) (mem' := mem) hS hC 3 rfl ?_
    refine ex_grd (b := pm_inb a1 8) (pc' := 10) (ls' := [.ref 33, .int a1, .int a2]) (st' := [.int (mem 39 a1.toNatClampNeg)]) (mem' := mem) hS hC rfl k.1 ?_
    replace k := k.2
    refine ex_many (pc' := 35) (ls' := [.ref 33, .int a1, .int a2]) (st' := [.int (mem 39 a1.toNatClampNeg)]) (mem' := mem) hS hC 1 rfl ?_
    exact ex_ret (v := (some (.int (mem 39 a1.toNatClampNeg)))) hS hC rfl rfl rfl k

set_option maxRecDepth 20000 in
theorem bk_X10_good_0 {ro : pm_RO} {Q : Option Value → pm_M → Prop} {mem : pm_M} {a1 a2 : Int32} (k : pm_Ex ro m_X10_isGood 0 [.ref 33, .int a1] [] mem (fun v m => pm_Ex ro m_X10_good 5 [.ref 33, .int a1, .int a2] (v.toList ++ []) m Q)) : pm_Ex ro m_X10_good 0 [.ref 33, .int a1, .int a2] [] mem Q := by
  have hS : pm_sig[m_X10_good]? = some _ := rfl
  have hC : pm_cod[m_X10_good]? = some _ := rfl
  refine ex_many (pc' := 2) (ls' := [.ref 33, .int a1, .int a2]) (st' := [.int a1, .ref 33]) (mem' := mem) hS hC 2 rfl ?_
  refine ex_call (y' := m_X10_isGood) (rest := []) (ent := [.ref 33, .int a1]) hS hC rfl rfl rfl rfl rfl rfl ?_
  exact k

set_option maxRecDepth 20000 in
theorem bk_X10_good_5 {ro : pm_RO} {Q : Option Value → pm_M → Prop} {mem : pm_M} {x1 x2 s0 : Int32} (k : (s0 = 0 → Q (some (.int (-2))) mem) ∧ (¬ (s0 = 0) → (0 ≤ x2 ∧ x2 ≤ 2 → pm_Ex ro m_X10_goodOf 0 [.ref 33, .int x1, .int x2] [] mem (fun v m => pm_Ex ro m_X10_good 26 [.ref 33, .int x1, .int x2] (v.toList ++ []) m Q)) ∧ (¬ (0 ≤ x2 ∧ x2 ≤ 2) → Q (some (.int (-2))) mem))) : pm_Ex ro m_X10_good 5 [.ref 33, .int x1, .int x2] [.int s0] mem Q := by
  have hS : pm_sig[m_X10_good]? = some _ := rfl
  have hC : pm_cod[m_X10_good]? = some _ := rfl
  refine ex_br (P := s0 = 0) (a := 29) (b := 8) (ls' := [.ref 33, .int x1, .int x2]) (st' := []) (mem' := mem) hS hC rfl (fun h => ?_) (fun h => ?_)
  · replace k := k.1 (h)
    refine ex_many (pc' := 31) (ls' := [.ref 33, .int x1, .int x2]) (st' := [.int (-2)]) (mem' := mem) hS hC 1 rfl ?_
    exact ex_ret (v := (some (.int (-2)))) hS hC rfl rfl rfl k
  · replace k := k.2 (h)
    refine ex_many (pc' := 14) (ls' := [.ref 33, .int x1, .int x2]) (st' := [.long 2, .long 0, .long x2.toInt64]) (mem' := mem) hS hC 4 rfl ?_
    refine ex_call (y' := m_X10_in) (rest := []) (ent := [.long x2.toInt64, .null, .long 0, .null, .long 2, .null]) hS hC rfl rfl rfl rfl rfl rfl ?_
    refine sp_in32 (v := x2) (lo := 0) (hi := 2) (by decide) (by decide) ?_
    show pm_Ex ro m_X10_good 17 [.ref 33, .int x1, .int x2] [.int (zb (0 ≤ x2 ∧ x2 ≤ 2))] mem Q
    refine ex_br (P := (zb (0 ≤ x2 ∧ x2 ≤ 2)) = 0) (a := 29) (b := 20) (ls' := [.ref 33, .int x1, .int x2]) (st' := []) (mem' := mem) hS hC rfl (fun h => ?_) (fun h => ?_)
    · replace k := k.2 (zb0 h)
      refine ex_many (pc' := 31) (ls' := [.ref 33, .int x1, .int x2]) (st' := [.int (-2)]) (mem' := mem) hS hC 1 rfl ?_
      exact ex_ret (v := (some (.int (-2)))) hS hC rfl rfl rfl k
    · replace k := k.1 (zb1 h)
      refine ex_many (pc' := 23) (ls' := [.ref 33, .int x1, .int x2]) (st' := [.int x2, .int x1, .ref 33]) (mem' := mem) hS hC 3 rfl ?_
      refine ex_call (y' := m_X10_goodOf) (rest := []) (ent := [.ref 33, .int x1, .int x2]) hS hC rfl rfl rfl rfl rfl rfl ?_
      exact k

set_option maxRecDepth 20000 in
theorem bk_X10_good_26 {ro : pm_RO} {Q : Option Value → pm_M → Prop} {mem : pm_M} {x1 x2 s0 : Int32} (k : Q (some (.int s0)) mem) : pm_Ex ro m_X10_good 26 [.ref 33, .int x1, .int x2] [.int s0] mem Q := by
  have hS : pm_sig[m_X10_good]? = some _ := rfl
  have hC : pm_cod[m_X10_good]? = some _ := rfl
  refine ex_many (pc' := 31) (ls' := [.ref 33, .int x1, .int x2]) (st' := [.int s0]) (mem' := mem) hS hC 1 rfl ?_
  exact ex_ret (v := (some (.int s0))) hS hC rfl rfl rfl k

set_option maxRecDepth 20000 in
theorem bk_X10_set_0 {ro : pm_RO} {Q : Option Value → pm_M → Prop} {mem : pm_M} {a1 a2 : Int32} (k : (0 ≤ a1 ∧ a1 ≤ 3 → ((if ¬ a1 = 0 then zb (¬ (¬ a1 = 3)) else 2 : Int32) ≤ a2 ∧ a2 ≤ (if ¬ a1 = 0 then (if ¬ a1 = 1 then (if ¬ a1 = 2 then 4 else 99 : Int32) else 1 : Int32) else 36 : Int32) → (pm_inb a1 4 = true) ∧ ((pm_inb a1 4 = true) ∧ (Q (some (.int (mem 41 a1.toNatClampNeg))) (pm_up mem 41 a1.toNatClampNeg a2)))) ∧ (¬ ((if ¬ a1 = 0 then zb (¬ (¬ a1 = 3)) else 2 : Int32) ≤ a2 ∧ a2 ≤ (if ¬ a1 = 0 then (if ¬ a1 = 1 then (if ¬ a1 = 2 then 4 else 99 : Int32) else 1 : Int32) else 36 : Int32)) → Q (some (.int (-2))) mem)) ∧ (¬ (0 ≤ a1 ∧ a1 ≤ 3) → Q (some (.int (-2))) mem)) : pm_Ex ro m_X10_set 0 [.ref 33, .int a1, .int a2, .null, .null, .null] [] mem Q := by
  have hS : pm_sig[m_X10_set]? = some _ := rfl
  have hC : pm_cod[m_X10_set]? = some _ := rfl
  refine ex_many (pc' := 1) (ls' := [.ref 33, .int a1, .int a2, .null, .null, .null]) (st' := [.int a1]) (mem' := mem) hS hC 1 rfl ?_
  have kp19 : pm_Ex ro m_X10_set 18 [.ref 33, .int a1, .int a2, .null, .null, .null] [.int (if ¬ a1 = 0 then zb (¬ (¬ a1 = 3)) else 2 : Int32)] mem Q := by
    refine ex_many (pc' := 20) (ls' := [.ref 33, .int a1, .int a2, .int (if ¬ a1 = 0 then zb (¬ (¬ a1 = 3)) else 2 : Int32), .null, .null]) (st' := [.int a1]) (mem' := mem) hS hC 2 rfl ?_
    have kp18 : pm_Ex ro m_X10_set 48 [.ref 33, .int a1, .int a2, .int (if ¬ a1 = 0 then zb (¬ (¬ a1 = 3)) else 2 : Int32), .null, .null] [.int (if ¬ a1 = 0 then (if ¬ a1 = 1 then (if ¬ a1 = 2 then 4 else 99 : Int32) else 1 : Int32) else 36 : Int32)] mem Q := by
      refine ex_many (pc' := 56) (ls' := [.ref 33, .int a1, .int a2, .int (if ¬ a1 = 0 then zb (¬ (¬ a1 = 3)) else 2 : Int32), .int (if ¬ a1 = 0 then (if ¬ a1 = 1 then (if ¬ a1 = 2 then 4 else 99 : Int32) else 1 : Int32) else 36 : Int32), .null]) (st' := [.long 3, .long 0, .long a1.toInt64]) (mem' := mem) hS hC 5 rfl ?_
      refine ex_call (y' := m_X10_in) (rest := []) (ent := [.long a1.toInt64, .null, .long 0, .null, .long 3, .null]) hS hC rfl rfl rfl rfl rfl rfl ?_
      refine sp_in32 (v := a1) (lo := 0) (hi := 3) (by decide) (by decide) ?_
      show pm_Ex ro m_X10_set 59 [.ref 33, .int a1, .int a2, .int (if ¬ a1 = 0 then zb (¬ (¬ a1 = 3)) else 2 : Int32), .int (if ¬ a1 = 0 then (if ¬ a1 = 1 then (if ¬ a1 = 2 then 4 else 99 : Int32) else 1 : Int32) else 36 : Int32), .null] [.int (zb (0 ≤ a1 ∧ a1 ≤ 3))] mem Q
      refine ex_br (P := (zb (0 ≤ a1 ∧ a1 ≤ 3)) = 0) (a := 75) (b := 62) (ls' := [.ref 33, .int a1, .int a2, .int (if ¬ a1 = 0 then zb (¬ (¬ a1 = 3)) else 2 : Int32), .int (if ¬ a1 = 0 then (if ¬ a1 = 1 then (if ¬ a1 = 2 then 4 else 99 : Int32) else 1 : Int32) else 36 : Int32), .null]) (st' := []) (mem' := mem) hS hC rfl (fun h => ?_) (fun h => ?_)
      · replace k := k.2 (zb0 h)
        refine ex_many (pc' := 77) (ls' := [.ref 33, .int a1, .int a2, .int (if ¬ a1 = 0 then zb (¬ (¬ a1 = 3)) else 2 : Int32), .int (if ¬ a1 = 0 then (if ¬ a1 = 1 then (if ¬ a1 = 2 then 4 else 99 : Int32) else 1 : Int32) else 36 : Int32), .null]) (st' := [.int (-2)]) (mem' := mem) hS hC 1 rfl ?_
        exact ex_ret (v := (some (.int (-2)))) hS hC rfl rfl rfl k
      · replace k := k.1 (zb1 h)
        refine ex_many (pc' := 69) (ls' := [.ref 33, .int a1, .int a2, .int (if ¬ a1 = 0 then zb (¬ (¬ a1 = 3)) else 2 : Int32), .int (if ¬ a1 = 0 then (if ¬ a1 = 1 then (if ¬ a1 = 2 then 4 else 99 : Int32) else 1 : Int32) else 36 : Int32), .null]) (st' := [.long ((if ¬ a1 = 0 then (if ¬ a1 = 1 then (if ¬ a1 = 2 then 4 else 99 : Int32) else 1 : Int32) else 36 : Int32).toInt64), .long ((if ¬ a1 = 0 then zb (¬ (¬ a1 = 3)) else 2 : Int32).toInt64), .long a2.toInt64]) (mem' := mem) hS hC 6 rfl ?_
        refine ex_call (y' := m_X10_in) (rest := []) (ent := [.long a2.toInt64, .null, .long ((if ¬ a1 = 0 then zb (¬ (¬ a1 = 3)) else 2 : Int32).toInt64), .null, .long ((if ¬ a1 = 0 then (if ¬ a1 = 1 then (if ¬ a1 = 2 then 4 else 99 : Int32) else 1 : Int32) else 36 : Int32).toInt64), .null]) hS hC rfl rfl rfl rfl rfl rfl ?_
        refine sp_in32 (v := a2) (lo := (if ¬ a1 = 0 then zb (¬ (¬ a1 = 3)) else 2 : Int32)) (hi := (if ¬ a1 = 0 then (if ¬ a1 = 1 then (if ¬ a1 = 2 then 4 else 99 : Int32) else 1 : Int32) else 36 : Int32)) rfl rfl ?_
        show pm_Ex ro m_X10_set 72 [.ref 33, .int a1, .int a2, .int (if ¬ a1 = 0 then zb (¬ (¬ a1 = 3)) else 2 : Int32), .int (if ¬ a1 = 0 then (if ¬ a1 = 1 then (if ¬ a1 = 2 then 4 else 99 : Int32) else 1 : Int32) else 36 : Int32), .null] [.int (zb ((if ¬ a1 = 0 then zb (¬ (¬ a1 = 3)) else 2 : Int32) ≤ a2 ∧ a2 ≤ (if ¬ a1 = 0 then (if ¬ a1 = 1 then (if ¬ a1 = 2 then 4 else 99 : Int32) else 1 : Int32) else 36 : Int32)))] mem Q
        refine ex_br (P := ¬ (zb ((if ¬ a1 = 0 then zb (¬ (¬ a1 = 3)) else 2 : Int32) ≤ a2 ∧ a2 ≤ (if ¬ a1 = 0 then (if ¬ a1 = 1 then (if ¬ a1 = 2 then 4 else 99 : Int32) else 1 : Int32) else 36 : Int32))) = 0) (a := 78) (b := 75) (ls' := [.ref 33, .int a1, .int a2, .int (if ¬ a1 = 0 then zb (¬ (¬ a1 = 3)) else 2 : Int32), .int (if ¬ a1 = 0 then (if ¬ a1 = 1 then (if ¬ a1 = 2 then 4 else 99 : Int32) else 1 : Int32) else 36 : Int32), .null]) (st' := []) (mem' := mem) hS hC rfl (fun h => ?_) (fun h => ?_)
        · replace k := k.1 (zb1 h)
          refine ex_many (pc' := 83) (ls' := [.ref 33, .int a1, .int a2, .int (if ¬ a1 = 0 then zb (¬ (¬ a1 = 3)) else 2 : Int32), .int (if ¬ a1 = 0 then (if ¬ a1 = 1 then (if ¬ a1 = 2 then 4 else 99 : Int32) else 1 : Int32) else 36 : Int32), .null]) (st' := [.int a1, .ref 41]) (mem' := mem) hS hC 3 rfl ?_
          refine ex_grd (b := pm_inb a1 4) (pc' := 84) (ls' := [.ref 33, .int a1, .int a2, .int (if ¬ a1 = 0 then zb (¬ (¬ a1 = 3)) else 2 : Int32), .int (if ¬ a1 = 0 then (if ¬ a1 = 1 then (if ¬ a1 = 2 then 4 else 99 : Int32) else 1 : Int32) else 36 : Int32), .null]) (st' := [.int (mem 41 a1.toNatClampNeg)]) (mem' := mem) hS hC rfl k.1 ?_
          replace k := k.2
          refine ex_many (pc' := 92) (ls' := [.ref 33, .int a1, .int a2, .int (if ¬ a1 = 0 then zb (¬ (¬ a1 = 3)) else 2 : Int32), .int (if ¬ a1 = 0 then (if ¬ a1 = 1 then (if ¬ a1 = 2 then 4 else 99 : Int32) else 1 : Int32) else 36 : Int32), .int (mem 41 a1.toNatClampNeg)]) (st' := [.int a2, .int a1, .ref 41]) (mem' := mem) hS hC 5 rfl ?_
          refine ex_grd (b := pm_inb a1 4) (pc' := 93) (ls' := [.ref 33, .int a1, .int a2, .int (if ¬ a1 = 0 then zb (¬ (¬ a1 = 3)) else 2 : Int32), .int (if ¬ a1 = 0 then (if ¬ a1 = 1 then (if ¬ a1 = 2 then 4 else 99 : Int32) else 1 : Int32) else 36 : Int32), .int (mem 41 a1.toNatClampNeg)]) (st' := []) (mem' := pm_up mem 41 a1.toNatClampNeg a2) hS hC rfl k.1 ?_
          replace k := k.2
          refine ex_many (pc' := 95) (ls' := [.ref 33, .int a1, .int a2, .int (if ¬ a1 = 0 then zb (¬ (¬ a1 = 3)) else 2 : Int32), .int (if ¬ a1 = 0 then (if ¬ a1 = 1 then (if ¬ a1 = 2 then 4 else 99 : Int32) else 1 : Int32) else 36 : Int32), .int (mem 41 a1.toNatClampNeg)]) (st' := [.int (mem 41 a1.toNatClampNeg)]) (mem' := pm_up mem 41 a1.toNatClampNeg a2) hS hC 1 rfl ?_
          exact ex_ret (v := (some (.int (mem 41 a1.toNatClampNeg)))) hS hC rfl rfl rfl k
        · replace k := k.2 (zb0n h)
          refine ex_many (pc' := 77) (ls' := [.ref 33, .int a1, .int a2, .int (if ¬ a1 = 0 then zb (¬ (¬ a1 = 3)) else 2 : Int32), .int (if ¬ a1 = 0 then (if ¬ a1 = 1 then (if ¬ a1 = 2 then 4 else 99 : Int32) else 1 : Int32) else 36 : Int32), .null]) (st' := [.int (-2)]) (mem' := mem) hS hC 1 rfl ?_
          exact ex_ret (v := (some (.int (-2)))) hS hC rfl rfl rfl k
    refine ex_br (P := ¬ a1 = 0) (a := 28) (b := 23) (ls' := [.ref 33, .int a1, .int a2, .int (if ¬ a1 = 0 then zb (¬ (¬ a1 = 3)) else 2 : Int32), .null, .null]) (st' := []) (mem' := mem) hS hC rfl (fun h => ?_) (fun h => ?_)
    · have kp18a : pm_Ex ro m_X10_set 48 [.ref 33, .int a1, .int a2, .int (if ¬ a1 = 0 then zb (¬ (¬ a1 = 3)) else 2 : Int32), .null, .null] [.int (if ¬ a1 = 1 then (if ¬ a1 = 2 then 4 else 99 : Int32) else 1 : Int32)] mem Q := pm_phi1 (f := fun z0 => pm_Ex ro m_X10_set 48 [.ref 33, .int a1, .int a2, .int (if ¬ a1 = 0 then zb (¬ (¬ a1 = 3)) else 2 : Int32), .null, .null] [.int z0] mem Q) (if_pos (h)) kp18
      have kp17 : pm_Ex ro m_X10_set 48 [.ref 33, .int a1, .int a2, .int (if ¬ a1 = 0 then zb (¬ (¬ a1 = 3)) else 2 : Int32), .null, .null] [.int (if ¬ a1 = 1 then (if ¬ a1 = 2 then 4 else 99 : Int32) else 1 : Int32)] mem Q := by
        exact kp18a
      refine ex_many (pc' := 30) (ls' := [.ref 33, .int a1, .int a2, .int (if ¬ a1 = 0 then zb (¬ (¬ a1 = 3)) else 2 : Int32), .null, .null]) (st' := [.int 1, .int a1]) (mem' := mem) hS hC 2 rfl ?_
      refine ex_br (P := ¬ a1 = 1) (a := 37) (b := 33) (ls' := [.ref 33, .int a1, .int a2, .int (if ¬ a1 = 0 then zb (¬ (¬ a1 = 3)) else 2 : Int32), .null, .null]) (st' := []) (mem' := mem) hS hC rfl (fun h => ?_) (fun h => ?_)
      · have kp17a : pm_Ex ro m_X10_set 48 [.ref 33, .int a1, .int a2, .int (if ¬ a1 = 0 then zb (¬ (¬ a1 = 3)) else 2 : Int32), .null, .null] [.int (if ¬ a1 = 2 then 4 else 99 : Int32)] mem Q := pm_phi1 (f := fun z0 => pm_Ex ro m_X10_set 48 [.ref 33, .int a1, .int a2, .int (if ¬ a1 = 0 then zb (¬ (¬ a1 = 3)) else 2 : Int32), .null, .null] [.int z0] mem Q) (if_pos (h)) kp17
        have kp16 : pm_Ex ro m_X10_set 48 [.ref 33, .int a1, .int a2, .int (if ¬ a1 = 0 then zb (¬ (¬ a1 = 3)) else 2 : Int32), .null, .null] [.int (if ¬ a1 = 2 then 4 else 99 : Int32)] mem Q := by
          exact kp17a
        refine ex_many (pc' := 39) (ls' := [.ref 33, .int a1, .int a2, .int (if ¬ a1 = 0 then zb (¬ (¬ a1 = 3)) else 2 : Int32), .null, .null]) (st' := [.int 2, .int a1]) (mem' := mem) hS hC 2 rfl ?_
        refine ex_br (P := ¬ a1 = 2) (a := 47) (b := 42) (ls' := [.ref 33, .int a1, .int a2, .int (if ¬ a1 = 0 then zb (¬ (¬ a1 = 3)) else 2 : Int32), .null, .null]) (st' := []) (mem' := mem) hS hC rfl (fun h => ?_) (fun h => ?_)
        · have kp16a : pm_Ex ro m_X10_set 48 [.ref 33, .int a1, .int a2, .int (if ¬ a1 = 0 then zb (¬ (¬ a1 = 3)) else 2 : Int32), .null, .null] [.int 4] mem Q := pm_phi1 (f := fun z0 => pm_Ex ro m_X10_set 48 [.ref 33, .int a1, .int a2, .int (if ¬ a1 = 0 then zb (¬ (¬ a1 = 3)) else 2 : Int32), .null, .null] [.int z0] mem Q) (if_pos (h)) kp16
          refine ex_many (pc' := 48) (ls' := [.ref 33, .int a1, .int a2, .int (if ¬ a1 = 0 then zb (¬ (¬ a1 = 3)) else 2 : Int32), .null, .null]) (st' := [.int 4]) (mem' := mem) hS hC 1 rfl ?_
          exact kp16a
        · have kp16b : pm_Ex ro m_X10_set 48 [.ref 33, .int a1, .int a2, .int (if ¬ a1 = 0 then zb (¬ (¬ a1 = 3)) else 2 : Int32), .null, .null] [.int 99] mem Q := pm_phi1 (f := fun z0 => pm_Ex ro m_X10_set 48 [.ref 33, .int a1, .int a2, .int (if ¬ a1 = 0 then zb (¬ (¬ a1 = 3)) else 2 : Int32), .null, .null] [.int z0] mem Q) (if_neg (h)) kp16
          refine ex_many (pc' := 48) (ls' := [.ref 33, .int a1, .int a2, .int (if ¬ a1 = 0 then zb (¬ (¬ a1 = 3)) else 2 : Int32), .null, .null]) (st' := [.int 99]) (mem' := mem) hS hC 2 rfl ?_
          exact kp16b
      · have kp17b : pm_Ex ro m_X10_set 48 [.ref 33, .int a1, .int a2, .int (if ¬ a1 = 0 then zb (¬ (¬ a1 = 3)) else 2 : Int32), .null, .null] [.int 1] mem Q := pm_phi1 (f := fun z0 => pm_Ex ro m_X10_set 48 [.ref 33, .int a1, .int a2, .int (if ¬ a1 = 0 then zb (¬ (¬ a1 = 3)) else 2 : Int32), .null, .null] [.int z0] mem Q) (if_neg (h)) kp17
        refine ex_many (pc' := 48) (ls' := [.ref 33, .int a1, .int a2, .int (if ¬ a1 = 0 then zb (¬ (¬ a1 = 3)) else 2 : Int32), .null, .null]) (st' := [.int 1]) (mem' := mem) hS hC 2 rfl ?_
        exact kp17b
    · have kp18b : pm_Ex ro m_X10_set 48 [.ref 33, .int a1, .int a2, .int (if ¬ a1 = 0 then zb (¬ (¬ a1 = 3)) else 2 : Int32), .null, .null] [.int 36] mem Q := pm_phi1 (f := fun z0 => pm_Ex ro m_X10_set 48 [.ref 33, .int a1, .int a2, .int (if ¬ a1 = 0 then zb (¬ (¬ a1 = 3)) else 2 : Int32), .null, .null] [.int z0] mem Q) (if_neg (h)) kp18
      refine ex_many (pc' := 48) (ls' := [.ref 33, .int a1, .int a2, .int (if ¬ a1 = 0 then zb (¬ (¬ a1 = 3)) else 2 : Int32), .null, .null]) (st' := [.int 36]) (mem' := mem) hS hC 2 rfl ?_
      exact kp18b
  refine ex_br (P := ¬ a1 = 0) (a := 8) (b := 4) (ls' := [.ref 33, .int a1, .int a2, .null, .null, .null]) (st' := []) (mem' := mem) hS hC rfl (fun h => ?_) (fun h => ?_)
  · have kp19a : pm_Ex ro m_X10_set 18 [.ref 33, .int a1, .int a2, .null, .null, .null] [.int (zb (¬ (¬ a1 = 3)))] mem Q := pm_phi1 (f := fun z0 => pm_Ex ro m_X10_set 18 [.ref 33, .int a1, .int a2, .null, .null, .null] [.int z0] mem Q) (if_pos (h)) kp19
    have kp15 : pm_Ex ro m_X10_set 18 [.ref 33, .int a1, .int a2, .null, .null, .null] [.int (zb (¬ (¬ a1 = 3)))] mem Q := by
      exact kp19a
    refine ex_many (pc' := 10) (ls' := [.ref 33, .int a1, .int a2, .null, .null, .null]) (st' := [.int 3, .int a1]) (mem' := mem) hS hC 2 rfl ?_
    refine ex_br (P := ¬ a1 = 3) (a := 17) (b := 13) (ls' := [.ref 33, .int a1, .int a2, .null, .null, .null]) (st' := []) (mem' := mem) hS hC rfl (fun h => ?_) (fun h => ?_)
    · have kp15a : pm_Ex ro m_X10_set 18 [.ref 33, .int a1, .int a2, .null, .null, .null] [.int 0] mem Q := pm_phi1 (f := fun z0 => pm_Ex ro m_X10_set 18 [.ref 33, .int a1, .int a2, .null, .null, .null] [.int z0] mem Q) (zb_npos (h)) kp15
      refine ex_many (pc' := 18) (ls' := [.ref 33, .int a1, .int a2, .null, .null, .null]) (st' := [.int 0]) (mem' := mem) hS hC 1 rfl ?_
      exact kp15a
    · have kp15b : pm_Ex ro m_X10_set 18 [.ref 33, .int a1, .int a2, .null, .null, .null] [.int 1] mem Q := pm_phi1 (f := fun z0 => pm_Ex ro m_X10_set 18 [.ref 33, .int a1, .int a2, .null, .null, .null] [.int z0] mem Q) (zb_nneg (h)) kp15
      refine ex_many (pc' := 18) (ls' := [.ref 33, .int a1, .int a2, .null, .null, .null]) (st' := [.int 1]) (mem' := mem) hS hC 2 rfl ?_
      exact kp15b
  · have kp19b : pm_Ex ro m_X10_set 18 [.ref 33, .int a1, .int a2, .null, .null, .null] [.int 2] mem Q := pm_phi1 (f := fun z0 => pm_Ex ro m_X10_set 18 [.ref 33, .int a1, .int a2, .null, .null, .null] [.int z0] mem Q) (if_neg (h)) kp19
    refine ex_many (pc' := 18) (ls' := [.ref 33, .int a1, .int a2, .null, .null, .null]) (st' := [.int 2]) (mem' := mem) hS hC 2 rfl ?_
    exact kp19b

set_option maxRecDepth 20000 in
theorem bk_X10_partner_0 {ro : pm_RO} {Q : Option Value → pm_M → Prop} {mem : pm_M} {a1 a2 : Int32} (k : (0 ≤ a1 ∧ a1 ≤ 7 → (0 ≤ a2 ∧ a2 ≤ 3 → (pm_inb a1 8 = true) ∧ ((pm_inb a1 8 = true) ∧ (Q (some (.int (mem 40 a1.toNatClampNeg))) (pm_up mem 40 a1.toNatClampNeg a2)))) ∧ (¬ (0 ≤ a2 ∧ a2 ≤ 3) → Q (some (.int (-2))) mem)) ∧ (¬ (0 ≤ a1 ∧ a1 ≤ 7) → Q (some (.int (-2))) mem)) : pm_Ex ro m_X10_partner 0 [.ref 33, .int a1, .int a2, .null] [] mem Q := by
  have hS : pm_sig[m_X10_partner]? = some _ := rfl
  have hC : pm_cod[m_X10_partner]? = some _ := rfl
  refine ex_many (pc' := 6) (ls' := [.ref 33, .int a1, .int a2, .null]) (st' := [.long 7, .long 0, .long a1.toInt64]) (mem' := mem) hS hC 4 rfl ?_
  refine ex_call (y' := m_X10_in) (rest := []) (ent := [.long a1.toInt64, .null, .long 0, .null, .long 7, .null]) hS hC rfl rfl rfl rfl rfl rfl ?_
  refine sp_in32 (v := a1) (lo := 0) (hi := 7) (by decide) (by decide) ?_
  show pm_Ex ro m_X10_partner 9 [.ref 33, .int a1, .int a2, .null] [.int (zb (0 ≤ a1 ∧ a1 ≤ 7))] mem Q
  refine ex_br (P := (zb (0 ≤ a1 ∧ a1 ≤ 7)) = 0) (a := 19) (b := 12) (ls' := [.ref 33, .int a1, .int a2, .null]) (st' := []) (mem' := mem) hS hC rfl (fun h => ?_) (fun h => ?_)
  · replace k := k.2 (zb0 h)
    refine ex_many (pc' := 21) (ls' := [.ref 33, .int a1, .int a2, .null]) (st' := [.int (-2)]) (mem' := mem) hS hC 1 rfl ?_
    exact ex_ret (v := (some (.int (-2)))) hS hC rfl rfl rfl k
  · replace k := k.1 (zb1 h)
    refine ex_many (pc' := 13) (ls' := [.ref 33, .int a1, .int a2, .null]) (st' := [.int a2]) (mem' := mem) hS hC 1 rfl ?_
    refine ex_call (y' := m_X10_isPartner) (rest := []) (ent := [.int a2]) hS hC rfl rfl rfl rfl rfl rfl ?_
    refine bk_X10_isPartner_0 ?_
    show pm_Ex ro m_X10_partner 16 [.ref 33, .int a1, .int a2, .null] [.int (zb (0 ≤ a2 ∧ a2 ≤ 3))] mem Q
    refine ex_br (P := ¬ (zb (0 ≤ a2 ∧ a2 ≤ 3)) = 0) (a := 22) (b := 19) (ls' := [.ref 33, .int a1, .int a2, .null]) (st' := []) (mem' := mem) hS hC rfl (fun h => ?_) (fun h => ?_)
    · replace k := k.1 (zb1 h)
      refine ex_many (pc' := 27) (ls' := [.ref 33, .int a1, .int a2, .null]) (st' := [.int a1, .ref 40]) (mem' := mem) hS hC 3 rfl ?_
      refine ex_grd (b := pm_inb a1 8) (pc' := 28) (ls' := [.ref 33, .int a1, .int a2, .null]) (st' := [.int (mem 40 a1.toNatClampNeg)]) (mem' := mem) hS hC rfl k.1 ?_
      replace k := k.2
      refine ex_many (pc' := 35) (ls' := [.ref 33, .int a1, .int a2, .int (mem 40 a1.toNatClampNeg)]) (st' := [.int a2, .int a1, .ref 40]) (mem' := mem) hS hC 5 rfl ?_
      refine ex_grd (b := pm_inb a1 8) (pc' := 36) (ls' := [.ref 33, .int a1, .int a2, .int (mem 40 a1.toNatClampNeg)]) (st' := []) (mem' := pm_up mem 40 a1.toNatClampNeg a2) hS hC rfl k.1 ?_
      replace k := k.2
      refine ex_many (pc' := 37) (ls' := [.ref 33, .int a1, .int a2, .int (mem 40 a1.toNatClampNeg)]) (st' := [.int (mem 40 a1.toNatClampNeg)]) (mem' := pm_up mem 40 a1.toNatClampNeg a2) hS hC 1 rfl ?_
      exact ex_ret (v := (some (.int (mem 40 a1.toNatClampNeg)))) hS hC rfl rfl rfl k
    · replace k := k.2 (zb0n h)
      refine ex_many (pc' := 21) (ls' := [.ref 33, .int a1, .int a2, .null]) (st' := [.int (-2)]) (mem' := mem) hS hC 1 rfl ?_
      exact ex_ret (v := (some (.int (-2)))) hS hC rfl rfl rfl k

set_option maxRecDepth 20000 in
theorem bk_X10_read_0 {ro : pm_RO} {Q : Option Value → pm_M → Prop} {mem : pm_M} {a1 : Int32} (k : (0 ≤ a1 ∧ a1 ≤ 3 → (pm_inb a1 4 = true) ∧ ((0 ≤ (mem 34 a1.toNatClampNeg) → pm_Ex ro m_X10_read 27 [.ref 33, .int a1, .int 0] [] mem Q) ∧ (¬ (0 ≤ (mem 34 a1.toNatClampNeg)) → Q (some (.int ((-10) - (1 : Int32)))) (pm_up mem 33 4 (1 : Int32))))) ∧ (¬ (0 ≤ a1 ∧ a1 ≤ 3) → Q (some (.int (-2))) mem)) : pm_Ex ro m_X10_read 0 [.ref 33, .int a1, .null] [] mem Q := by
  have hS : pm_sig[m_X10_read]? = some _ := rfl
  have hC : pm_cod[m_X10_read]? = some _ := rfl
  refine ex_many (pc' := 1) (ls' := [.ref 33, .int a1, .null]) (st' := [.int a1]) (mem' := mem) hS hC 1 rfl ?_
  refine ex_call (y' := m_X10_isSheet) (rest := []) (ent := [.int a1]) hS hC rfl rfl rfl rfl rfl rfl ?_
  refine bk_X10_isSheet_0 ?_
  show pm_Ex ro m_X10_read 4 [.ref 33, .int a1, .null] [.int (zb (0 ≤ a1 ∧ a1 ≤ 3))] mem Q
  refine ex_br (P := ¬ (zb (0 ≤ a1 ∧ a1 ≤ 3)) = 0) (a := 10) (b := 7) (ls' := [.ref 33, .int a1, .null]) (st' := []) (mem' := mem) hS hC rfl (fun h => ?_) (fun h => ?_)
  · replace k := k.1 (zb1 h)
    refine ex_many (pc' := 15) (ls' := [.ref 33, .int a1, .null]) (st' := [.int a1, .ref 34]) (mem' := mem) hS hC 3 rfl ?_
    refine ex_grd (b := pm_inb a1 4) (pc' := 16) (ls' := [.ref 33, .int a1, .null]) (st' := [.int (mem 34 a1.toNatClampNeg)]) (mem' := mem) hS hC rfl k.1 ?_
    replace k := k.2
    refine ex_br (P := 0 ≤ (mem 34 a1.toNatClampNeg)) (a := 25) (b := 19) (ls' := [.ref 33, .int a1, .null]) (st' := []) (mem' := mem) hS hC rfl (fun h => ?_) (fun h => ?_)
    · replace k := k.1 (h)
      refine ex_many (pc' := 27) (ls' := [.ref 33, .int a1, .int 0]) (st' := []) (mem' := mem) hS hC 2 rfl ?_
      exact k
    · replace k := k.2 (h)
      refine ex_many (pc' := 21) (ls' := [.ref 33, .int a1, .null]) (st' := [.int 1, .ref 33]) (mem' := mem) hS hC 2 rfl ?_
      refine ex_call (y' := m_X10_met) (rest := []) (ent := [.ref 33, .int 1]) hS hC rfl rfl rfl rfl rfl rfl ?_
      refine bk_X10_met_0 ?_
      show pm_Ex ro m_X10_read 24 [.ref 33, .int a1, .null] [.int ((-10) - (1 : Int32))] (pm_up mem 33 4 (1 : Int32)) Q
      exact ex_ret (v := (some (.int ((-10) - (1 : Int32))))) hS hC rfl rfl rfl k
  · replace k := k.2 (zb0n h)
    refine ex_many (pc' := 9) (ls' := [.ref 33, .int a1, .null]) (st' := [.int (-2)]) (mem' := mem) hS hC 1 rfl ?_
    exact ex_ret (v := (some (.int (-2)))) hS hC rfl rfl rfl k

set_option maxRecDepth 20000 in
theorem bk_X10_read_27 {ro : pm_RO} {Q : Option Value → pm_M → Prop} {mem : pm_M} {x1 x2 : Int32} (k : (pm_inb x1 4 = true) ∧ (((mem 35 x1.toNatClampNeg) ≤ x2 → Q (some (.int x2)) mem) ∧ (¬ ((mem 35 x1.toNatClampNeg) ≤ x2) → (pm_inb ((60 * x1) + x2) 240 = true) ∧ (pm_Ex ro m_X10_partner 0 [.ref 33, .int x2, .int (mem 36 (((60 * x1) + x2).toNatClampNeg)), .null] [] mem (fun v m => pm_Ex ro m_X10_read 53 [.ref 33, .int x1, .int x2] (v.toList ++ []) m Q))))) : pm_Ex ro m_X10_read 27 [.ref 33, .int x1, .int x2] [] mem Q := by
  have hS : pm_sig[m_X10_read]? = some _ := rfl
  have hC : pm_cod[m_X10_read]? = some _ := rfl
  refine ex_many (pc' := 33) (ls' := [.ref 33, .int x1, .int x2]) (st' := [.int x1, .ref 35, .int x2]) (mem' := mem) hS hC 4 rfl ?_
  refine ex_grd (b := pm_inb x1 4) (pc' := 34) (ls' := [.ref 33, .int x1, .int x2]) (st' := [.int (mem 35 x1.toNatClampNeg), .int x2]) (mem' := mem) hS hC rfl k.1 ?_
  replace k := k.2
  refine ex_br (P := (mem 35 x1.toNatClampNeg) ≤ x2) (a := 62) (b := 37) (ls' := [.ref 33, .int x1, .int x2]) (st' := []) (mem' := mem) hS hC rfl (fun h => ?_) (fun h => ?_)
  · replace k := k.1 (h)
    refine ex_many (pc' := 63) (ls' := [.ref 33, .int x1, .int x2]) (st' := [.int x2]) (mem' := mem) hS hC 1 rfl ?_
    exact ex_ret (v := (some (.int x2))) hS hC rfl rfl rfl k
  · replace k := k.2 (h)
    refine ex_many (pc' := 49) (ls' := [.ref 33, .int x1, .int x2]) (st' := [.int ((60 * x1) + x2), .ref 36, .int x2, .ref 33]) (mem' := mem) hS hC 9 rfl ?_
    refine ex_grd (b := pm_inb ((60 * x1) + x2) 240) (pc' := 50) (ls' := [.ref 33, .int x1, .int x2]) (st' := [.int (mem 36 (((60 * x1) + x2).toNatClampNeg)), .int x2, .ref 33]) (mem' := mem) hS hC rfl k.1 ?_
    replace k := k.2
    refine ex_call (y' := m_X10_partner) (rest := []) (ent := [.ref 33, .int x2, .int (mem 36 (((60 * x1) + x2).toNatClampNeg)), .null]) hS hC rfl rfl rfl rfl rfl rfl ?_
    exact k

set_option maxRecDepth 20000 in
theorem bk_X10_read_53 {ro : pm_RO} {Q : Option Value → pm_M → Prop} {mem : pm_M} {x1 x2 s0 : Int32} (k : (s0 < 0 → Q (some (.int x2)) mem) ∧ (¬ (s0 < 0) → pm_Ex ro m_X10_read 27 [.ref 33, .int x1, .int (x2 + 1)] [] mem Q)) : pm_Ex ro m_X10_read 53 [.ref 33, .int x1, .int x2] [.int s0] mem Q := by
  have hS : pm_sig[m_X10_read]? = some _ := rfl
  have hC : pm_cod[m_X10_read]? = some _ := rfl
  refine ex_br (P := s0 < 0) (a := 62) (b := 56) (ls' := [.ref 33, .int x1, .int x2]) (st' := []) (mem' := mem) hS hC rfl (fun h => ?_) (fun h => ?_)
  · replace k := k.1 (h)
    refine ex_many (pc' := 63) (ls' := [.ref 33, .int x1, .int x2]) (st' := [.int x2]) (mem' := mem) hS hC 1 rfl ?_
    exact ex_ret (v := (some (.int x2))) hS hC rfl rfl rfl k
  · replace k := k.2 (h)
    refine ex_many (pc' := 27) (ls' := [.ref 33, .int x1, .int (x2 + 1)]) (st' := []) (mem' := mem) hS hC 2 rfl ?_
    exact k

set_option maxRecDepth 20000 in
theorem bk_X10_paidFor_0 {ro : pm_RO} {Q : Option Value → pm_M → Prop} {mem : pm_M} {a1 : Int32} (k : pm_Ex ro m_X10_paidFor 12 [.ref 33, .int a1, .int (mem 41 0), .int a1, .int 1, .null] [] mem Q) : pm_Ex ro m_X10_paidFor 0 [.ref 33, .int a1, .null, .null, .null, .null] [] mem Q := by
  have hS : pm_sig[m_X10_paidFor]? = some _ := rfl
  have hC : pm_cod[m_X10_paidFor]? = some _ := rfl
  refine ex_many (pc' := 12) (ls' := [.ref 33, .int a1, .int (mem 41 0), .int a1, .int 1, .null]) (st' := []) (mem' := mem) hS hC 9 rfl ?_
  exact k

set_option maxRecDepth 20000 in
theorem bk_X10_paidFor_12 {ro : pm_RO} {Q : Option Value → pm_M → Prop} {mem : pm_M} {x1 x2 x3 x4 : Int32} (k : (x3 ≤ 0 → pm_Ex ro m_X10_paidFor 52 [.ref 33, .int x1, .int x2, .int x3, .int x4, .int 0] [] mem Q) ∧ (¬ (x3 ≤ 0) → (¬ x2 = 0) ∧ ((¬ (x3 - x3 / x2 * x2) = 0 → pm_Ex ro m_X10_paidFor 52 [.ref 33, .int x1, .int x2, .int x3, .int x4, .int 0] [] mem Q) ∧ (¬ (¬ (x3 - x3 / x2 * x2) = 0) → (¬ x2 = 0) ∧ (pm_Ex ro m_X10_paidFor 12 [.ref 33, .int x1, .int x2, .int (x3 / x2), .int (x4 * (if ¬ (mem 41 1) = 1 then 1 else x2 : Int32)), .null] [] mem Q))))) : pm_Ex ro m_X10_paidFor 12 [.ref 33, .int x1, .int x2, .int x3, .int x4, .null] [] mem Q := by
  have hS : pm_sig[m_X10_paidFor]? = some _ := rfl
  have hC : pm_cod[m_X10_paidFor]? = some _ := rfl
  refine ex_many (pc' := 13) (ls' := [.ref 33, .int x1, .int x2, .int x3, .int x4, .null]) (st' := [.int x3]) (mem' := mem) hS hC 1 rfl ?_
  refine ex_br (P := x3 ≤ 0) (a := 49) (b := 16) (ls' := [.ref 33, .int x1, .int x2, .int x3, .int x4, .null]) (st' := []) (mem' := mem) hS hC rfl (fun h => ?_) (fun h => ?_)
  · replace k := k.1 (h)
    refine ex_many (pc' := 52) (ls' := [.ref 33, .int x1, .int x2, .int x3, .int x4, .int 0]) (st' := []) (mem' := mem) hS hC 2 rfl ?_
    exact k
  · replace k := k.2 (h)
    refine ex_many (pc' := 18) (ls' := [.ref 33, .int x1, .int x2, .int x3, .int x4, .null]) (st' := [.int x2, .int x3]) (mem' := mem) hS hC 2 rfl ?_
    refine ex_grd (b := !(decide (x2 = 0))) (pc' := 19) (ls' := [.ref 33, .int x1, .int x2, .int x3, .int x4, .null]) (st' := [.int (x3 - x3 / x2 * x2)]) (mem' := mem) hS hC rfl (pm_nz k.1) ?_
    replace k := k.2
    refine ex_br (P := ¬ (x3 - x3 / x2 * x2) = 0) (a := 49) (b := 22) (ls' := [.ref 33, .int x1, .int x2, .int x3, .int x4, .null]) (st' := []) (mem' := mem) hS hC rfl (fun h => ?_) (fun h => ?_)
    · replace k := k.1 (h)
      refine ex_many (pc' := 52) (ls' := [.ref 33, .int x1, .int x2, .int x3, .int x4, .int 0]) (st' := []) (mem' := mem) hS hC 2 rfl ?_
      exact k
    · replace k := k.2 (h)
      refine ex_many (pc' := 24) (ls' := [.ref 33, .int x1, .int x2, .int x3, .int x4, .null]) (st' := [.int x2, .int x3]) (mem' := mem) hS hC 2 rfl ?_
      refine ex_grd (b := !(decide (x2 = 0))) (pc' := 25) (ls' := [.ref 33, .int x1, .int x2, .int x3, .int x4, .null]) (st' := [.int (x3 / x2)]) (mem' := mem) hS hC rfl (pm_nz k.1) ?_
      replace k := k.2
      refine ex_many (pc' := 35) (ls' := [.ref 33, .int x1, .int x2, .int (x3 / x2), .int x4, .null]) (st' := [.int 1, .int (mem 41 1), .int x4]) (mem' := mem) hS hC 7 rfl ?_
      have kp20 : pm_Ex ro m_X10_paidFor 43 [.ref 33, .int x1, .int x2, .int (x3 / x2), .int x4, .null] [.int (if ¬ (mem 41 1) = 1 then 1 else x2 : Int32), .int x4] mem Q := by
        refine ex_many (pc' := 12) (ls' := [.ref 33, .int x1, .int x2, .int (x3 / x2), .int (x4 * (if ¬ (mem 41 1) = 1 then 1 else x2 : Int32)), .null]) (st' := []) (mem' := mem) hS hC 3 rfl ?_
        exact k
      refine ex_br (P := ¬ (mem 41 1) = 1) (a := 42) (b := 38) (ls' := [.ref 33, .int x1, .int x2, .int (x3 / x2), .int x4, .null]) (st' := [.int x4]) (mem' := mem) hS hC rfl (fun h => ?_) (fun h => ?_)
      · have kp20a : pm_Ex ro m_X10_paidFor 43 [.ref 33, .int x1, .int x2, .int (x3 / x2), .int x4, .null] [.int 1, .int x4] mem Q := pm_phi1 (f := fun z0 => pm_Ex ro m_X10_paidFor 43 [.ref 33, .int x1, .int x2, .int (x3 / x2), .int x4, .null] [.int z0, .int x4] mem Q) (if_pos (h)) kp20
        refine ex_many (pc' := 43) (ls' := [.ref 33, .int x1, .int x2, .int (x3 / x2), .int x4, .null]) (st' := [.int 1, .int x4]) (mem' := mem) hS hC 1 rfl ?_
        exact kp20a
      · have kp20b : pm_Ex ro m_X10_paidFor 43 [.ref 33, .int x1, .int x2, .int (x3 / x2), .int x4, .null] [.int x2, .int x4] mem Q := pm_phi1 (f := fun z0 => pm_Ex ro m_X10_paidFor 43 [.ref 33, .int x1, .int x2, .int (x3 / x2), .int x4, .null] [.int z0, .int x4] mem Q) (if_neg (h)) kp20
        refine ex_many (pc' := 43) (ls' := [.ref 33, .int x1, .int x2, .int (x3 / x2), .int x4, .null]) (st' := [.int x2, .int x4]) (mem' := mem) hS hC 2 rfl ?_
        exact kp20b

set_option maxRecDepth 20000 in
theorem bk_X10_paidFor_52 {ro : pm_RO} {Q : Option Value → pm_M → Prop} {mem : pm_M} {x1 x2 x3 x4 x5 : Int32} (k : (x3 ≤ 0 → Q (some (.int (x5 * x4))) mem) ∧ (¬ (x3 ≤ 0) → (¬ x2 = 0) ∧ ((¬ x2 = 0) ∧ (pm_Ex ro m_X10_paidFor 52 [.ref 33, .int x1, .int x2, .int (x3 / x2), .int x4, .int ((x2 * x5) + (x3 - x3 / x2 * x2))] [] mem Q)))) : pm_Ex ro m_X10_paidFor 52 [.ref 33, .int x1, .int x2, .int x3, .int x4, .int x5] [] mem Q := by
  have hS : pm_sig[m_X10_paidFor]? = some _ := rfl
  have hC : pm_cod[m_X10_paidFor]? = some _ := rfl
  refine ex_many (pc' := 53) (ls' := [.ref 33, .int x1, .int x2, .int x3, .int x4, .int x5]) (st' := [.int x3]) (mem' := mem) hS hC 1 rfl ?_
  refine ex_br (P := x3 ≤ 0) (a := 73) (b := 56) (ls' := [.ref 33, .int x1, .int x2, .int x3, .int x4, .int x5]) (st' := []) (mem' := mem) hS hC rfl (fun h => ?_) (fun h => ?_)
  · replace k := k.1 (h)
    refine ex_many (pc' := 78) (ls' := [.ref 33, .int x1, .int x2, .int x3, .int x4, .int x5]) (st' := [.int (x5 * x4)]) (mem' := mem) hS hC 3 rfl ?_
    exact ex_ret (v := (some (.int (x5 * x4)))) hS hC rfl rfl rfl k
  · replace k := k.2 (h)
    refine ex_many (pc' := 62) (ls' := [.ref 33, .int x1, .int x2, .int x3, .int x4, .int x5]) (st' := [.int x2, .int x3, .int (x2 * x5)]) (mem' := mem) hS hC 5 rfl ?_
    refine ex_grd (b := !(decide (x2 = 0))) (pc' := 63) (ls' := [.ref 33, .int x1, .int x2, .int x3, .int x4, .int x5]) (st' := [.int (x3 - x3 / x2 * x2), .int (x2 * x5)]) (mem' := mem) hS hC rfl (pm_nz k.1) ?_
    replace k := k.2
    refine ex_many (pc' := 68) (ls' := [.ref 33, .int x1, .int x2, .int x3, .int x4, .int ((x2 * x5) + (x3 - x3 / x2 * x2))]) (st' := [.int x2, .int x3]) (mem' := mem) hS hC 4 rfl ?_
    refine ex_grd (b := !(decide (x2 = 0))) (pc' := 69) (ls' := [.ref 33, .int x1, .int x2, .int x3, .int x4, .int ((x2 * x5) + (x3 - x3 / x2 * x2))]) (st' := [.int (x3 / x2)]) (mem' := mem) hS hC rfl (pm_nz k.1) ?_
    replace k := k.2
    refine ex_many (pc' := 52) (ls' := [.ref 33, .int x1, .int x2, .int (x3 / x2), .int x4, .int ((x2 * x5) + (x3 - x3 / x2 * x2))]) (st' := []) (mem' := mem) hS hC 2 rfl ?_
    exact k

set_option maxRecDepth 20000 in
theorem bk_X10_paid_0 {ro : pm_RO} {Q : Option Value → pm_M → Prop} {mem : pm_M} {a1 : Int32} (k : (0 ≤ a1 ∧ a1 ≤ 9999 → pm_Ex ro m_X10_paidFor 0 [.ref 33, .int a1, .null, .null, .null, .null] [] mem (fun v m => pm_Ex ro m_X10_paid 12 [.ref 33, .int a1] (v.toList ++ []) m Q)) ∧ (¬ (0 ≤ a1 ∧ a1 ≤ 9999) → Q (some (.int (-2))) mem)) : pm_Ex ro m_X10_paid 0 [.ref 33, .int a1] [] mem Q := by
  have hS : pm_sig[m_X10_paid]? = some _ := rfl
  have hC : pm_cod[m_X10_paid]? = some _ := rfl
  refine ex_many (pc' := 1) (ls' := [.ref 33, .int a1]) (st' := [.int a1]) (mem' := mem) hS hC 1 rfl ?_
  refine ex_call (y' := m_X10_isNumber) (rest := []) (ent := [.int a1]) hS hC rfl rfl rfl rfl rfl rfl ?_
  refine bk_X10_isNumber_0 ?_
  show pm_Ex ro m_X10_paid 4 [.ref 33, .int a1] [.int (zb (0 ≤ a1 ∧ a1 ≤ 9999))] mem Q
  refine ex_br (P := (zb (0 ≤ a1 ∧ a1 ≤ 9999)) = 0) (a := 15) (b := 7) (ls' := [.ref 33, .int a1]) (st' := []) (mem' := mem) hS hC rfl (fun h => ?_) (fun h => ?_)
  · replace k := k.2 (zb0 h)
    refine ex_many (pc' := 17) (ls' := [.ref 33, .int a1]) (st' := [.int (-2)]) (mem' := mem) hS hC 1 rfl ?_
    exact ex_ret (v := (some (.int (-2)))) hS hC rfl rfl rfl k
  · replace k := k.1 (zb1 h)
    refine ex_many (pc' := 9) (ls' := [.ref 33, .int a1]) (st' := [.int a1, .ref 33]) (mem' := mem) hS hC 2 rfl ?_
    refine ex_call (y' := m_X10_paidFor) (rest := []) (ent := [.ref 33, .int a1, .null, .null, .null, .null]) hS hC rfl rfl rfl rfl rfl rfl ?_
    exact k

set_option maxRecDepth 20000 in
theorem bk_X10_paid_12 {ro : pm_RO} {Q : Option Value → pm_M → Prop} {mem : pm_M} {x1 s0 : Int32} (k : Q (some (.int s0)) mem) : pm_Ex ro m_X10_paid 12 [.ref 33, .int x1] [.int s0] mem Q := by
  have hS : pm_sig[m_X10_paid]? = some _ := rfl
  have hC : pm_cod[m_X10_paid]? = some _ := rfl
  refine ex_many (pc' := 17) (ls' := [.ref 33, .int x1]) (st' := [.int s0]) (mem' := mem) hS hC 1 rfl ?_
  exact ex_ret (v := (some (.int s0))) hS hC rfl rfl rfl k

set_option maxRecDepth 20000 in
theorem bk_X10_sumOf_0 {ro : pm_RO} {Q : Option Value → pm_M → Prop} {mem : pm_M} {a1 : Int32} (k : pm_Ex ro m_X10_sumOf 4 [.ref 33, .int a1, .int 0, .int 0] [] mem Q) : pm_Ex ro m_X10_sumOf 0 [.ref 33, .int a1, .null, .null] [] mem Q := by
  have hS : pm_sig[m_X10_sumOf]? = some _ := rfl
  have hC : pm_cod[m_X10_sumOf]? = some _ := rfl
  refine ex_many (pc' := 4) (ls' := [.ref 33, .int a1, .int 0, .int 0]) (st' := []) (mem' := mem) hS hC 4 rfl ?_
  exact k

set_option maxRecDepth 20000 in
theorem bk_X10_sumOf_4 {ro : pm_RO} {Q : Option Value → pm_M → Prop} {mem : pm_M} {x1 x2 x3 : Int32} (k : ((mem 33 8) ≤ x3 → Q (some (.int x2)) mem) ∧ (¬ ((mem 33 8) ≤ x3) → (¬ (¬ ((x1 >>> (x3 &&& 31)) &&& 1) = 1) → (pm_inb x3 8 = true) ∧ (pm_Ex ro m_X10_sumOf 4 [.ref 33, .int x1, .int (x2 + (mem 39 x3.toNatClampNeg)), .int (x3 + 1)] [] mem Q)) ∧ (¬ (¬ (¬ ((x1 >>> (x3 &&& 31)) &&& 1) = 1)) → pm_Ex ro m_X10_sumOf 4 [.ref 33, .int x1, .int (x2 + 0), .int (x3 + 1)] [] mem Q))) : pm_Ex ro m_X10_sumOf 4 [.ref 33, .int x1, .int x2, .int x3] [] mem Q := by
  have hS : pm_sig[m_X10_sumOf]? = some _ := rfl
  have hC : pm_cod[m_X10_sumOf]? = some _ := rfl
  refine ex_many (pc' := 9) (ls' := [.ref 33, .int x1, .int x2, .int x3]) (st' := [.int (mem 33 8), .int x3]) (mem' := mem) hS hC 3 rfl ?_
  refine ex_br (P := (mem 33 8) ≤ x3) (a := 39) (b := 12) (ls' := [.ref 33, .int x1, .int x2, .int x3]) (st' := []) (mem' := mem) hS hC rfl (fun h => ?_) (fun h => ?_)
  · replace k := k.1 (h)
    refine ex_many (pc' := 40) (ls' := [.ref 33, .int x1, .int x2, .int x3]) (st' := [.int x2]) (mem' := mem) hS hC 1 rfl ?_
    exact ex_ret (v := (some (.int x2))) hS hC rfl rfl rfl k
  · replace k := k.2 (h)
    refine ex_many (pc' := 15) (ls' := [.ref 33, .int x1, .int x2, .int x3]) (st' := [.int x3, .int x1, .int x2]) (mem' := mem) hS hC 3 rfl ?_
    refine ex_call (y' := m_X10_isIn) (rest := [.int x2]) (ent := [.int x1, .int x3]) hS hC rfl rfl rfl rfl rfl rfl ?_
    refine bk_X10_isIn_0 ?_
    show pm_Ex ro m_X10_sumOf 18 [.ref 33, .int x1, .int x2, .int x3] [.int (zb (¬ (¬ ((x1 >>> (x3 &&& 31)) &&& 1) = 1))), .int x2] mem Q
    refine ex_br (P := (zb (¬ (¬ ((x1 >>> (x3 &&& 31)) &&& 1) = 1))) = 0) (a := 30) (b := 21) (ls' := [.ref 33, .int x1, .int x2, .int x3]) (st' := [.int x2]) (mem' := mem) hS hC rfl (fun h => ?_) (fun h => ?_)
    · replace k := k.2 (zb0 h)
      refine ex_many (pc' := 4) (ls' := [.ref 33, .int x1, .int (x2 + 0), .int (x3 + 1)]) (st' := []) (mem' := mem) hS hC 5 rfl ?_
      exact k
    · replace k := k.1 (zb1 h)
      refine ex_many (pc' := 26) (ls' := [.ref 33, .int x1, .int x2, .int x3]) (st' := [.int x3, .ref 39, .int x2]) (mem' := mem) hS hC 3 rfl ?_
      refine ex_grd (b := pm_inb x3 8) (pc' := 27) (ls' := [.ref 33, .int x1, .int x2, .int x3]) (st' := [.int (mem 39 x3.toNatClampNeg), .int x2]) (mem' := mem) hS hC rfl k.1 ?_
      replace k := k.2
      refine ex_many (pc' := 4) (ls' := [.ref 33, .int x1, .int (x2 + (mem 39 x3.toNatClampNeg)), .int (x3 + 1)]) (st' := []) (mem' := mem) hS hC 5 rfl ?_
      exact k

set_option maxRecDepth 20000 in
theorem bk_X10_bill_0 {ro : pm_RO} {Q : Option Value → pm_M → Prop} {mem : pm_M} {a1 a2 : Int32} (k : pm_Ex ro m_X10_reads 0 [.ref 33, .null] [] mem (fun v m => pm_Ex ro m_X10_bill 4 [.ref 33, .int a1, .int a2] (v.toList ++ []) m Q)) : pm_Ex ro m_X10_bill 0 [.ref 33, .int a1, .int a2] [] mem Q := by
  have hS : pm_sig[m_X10_bill]? = some _ := rfl
  have hC : pm_cod[m_X10_bill]? = some _ := rfl
  refine ex_many (pc' := 1) (ls' := [.ref 33, .int a1, .int a2]) (st' := [.ref 33]) (mem' := mem) hS hC 1 rfl ?_
  refine ex_call (y' := m_X10_reads) (rest := []) (ent := [.ref 33, .null]) hS hC rfl rfl rfl rfl rfl rfl ?_
  exact k

set_option maxRecDepth 20000 in
theorem bk_X10_bill_4 {ro : pm_RO} {Q : Option Value → pm_M → Prop} {mem : pm_M} {x1 x2 s0 : Int32} (k : (1 ≤ x1 ∧ x1 ≤ (((1 : Int32) <<< ((mem 33 8) &&& 31)) - 1) → (0 ≤ x2 ∧ x2 ≤ 1 → (¬ x2 = 0 → pm_Ex ro m_X10_sumOf 0 [.ref 33, .int x1, .null, .null] [] mem (fun v m => pm_Ex ro m_X10_bill 47 [.ref 33, .int x1, .int x2] (v.toList ++ [.ref 33]) m Q)) ∧ (¬ (¬ x2 = 0) → pm_Ex ro m_X10_sumOf 0 [.ref 33, .int x1, .null, .null] [] mem (fun v m => pm_Ex ro m_X10_bill 38 [.ref 33, .int x1, .int x2] (v.toList ++ []) m Q))) ∧ (¬ (0 ≤ x2 ∧ x2 ≤ 1) → Q (some (.int (-2))) mem)) ∧ (¬ (1 ≤ x1 ∧ x1 ≤ (((1 : Int32) <<< ((mem 33 8) &&& 31)) - 1)) → Q (some (.int (-2))) mem)) : pm_Ex ro m_X10_bill 4 [.ref 33, .int x1, .int x2] [.int s0] mem Q := by
  have hS : pm_sig[m_X10_bill]? = some _ := rfl
  have hC : pm_cod[m_X10_bill]? = some _ := rfl
  refine ex_many (pc' := 9) (ls' := [.ref 33, .int x1, .int x2]) (st' := [.ref 33, .long 1, .long x1.toInt64]) (mem' := mem) hS hC 5 rfl ?_
  refine ex_call (y' := m_X10_whole) (rest := [.long 1, .long x1.toInt64]) (ent := [.ref 33]) hS hC rfl rfl rfl rfl rfl rfl ?_
  refine bk_X10_whole_0 ?_
  show pm_Ex ro m_X10_bill 12 [.ref 33, .int x1, .int x2] [.int (((1 : Int32) <<< ((mem 33 8) &&& 31)) - 1), .long 1, .long x1.toInt64] mem Q
  refine ex_many (pc' := 13) (ls' := [.ref 33, .int x1, .int x2]) (st' := [.long ((((1 : Int32) <<< ((mem 33 8) &&& 31)) - 1).toInt64), .long 1, .long x1.toInt64]) (mem' := mem) hS hC 1 rfl ?_
  refine ex_call (y' := m_X10_in) (rest := []) (ent := [.long x1.toInt64, .null, .long 1, .null, .long ((((1 : Int32) <<< ((mem 33 8) &&& 31)) - 1).toInt64), .null]) hS hC rfl rfl rfl rfl rfl rfl ?_
  refine sp_in32 (v := x1) (lo := 1) (hi := (((1 : Int32) <<< ((mem 33 8) &&& 31)) - 1)) (by decide) rfl ?_
  show pm_Ex ro m_X10_bill 16 [.ref 33, .int x1, .int x2] [.int (zb (1 ≤ x1 ∧ x1 ≤ (((1 : Int32) <<< ((mem 33 8) &&& 31)) - 1)))] mem Q
  refine ex_br (P := (zb (1 ≤ x1 ∧ x1 ≤ (((1 : Int32) <<< ((mem 33 8) &&& 31)) - 1))) = 0) (a := 26) (b := 19) (ls' := [.ref 33, .int x1, .int x2]) (st' := []) (mem' := mem) hS hC rfl (fun h => ?_) (fun h => ?_)
  · replace k := k.2 (zb0 h)
    refine ex_many (pc' := 28) (ls' := [.ref 33, .int x1, .int x2]) (st' := [.int (-2)]) (mem' := mem) hS hC 1 rfl ?_
    exact ex_ret (v := (some (.int (-2)))) hS hC rfl rfl rfl k
  · replace k := k.1 (zb1 h)
    refine ex_many (pc' := 20) (ls' := [.ref 33, .int x1, .int x2]) (st' := [.int x2]) (mem' := mem) hS hC 1 rfl ?_
    refine ex_call (y' := m_X10_isTwo) (rest := []) (ent := [.int x2]) hS hC rfl rfl rfl rfl rfl rfl ?_
    refine bk_X10_isTwo_0 ?_
    show pm_Ex ro m_X10_bill 23 [.ref 33, .int x1, .int x2] [.int (zb (0 ≤ x2 ∧ x2 ≤ 1))] mem Q
    refine ex_br (P := ¬ (zb (0 ≤ x2 ∧ x2 ≤ 1)) = 0) (a := 29) (b := 26) (ls' := [.ref 33, .int x1, .int x2]) (st' := []) (mem' := mem) hS hC rfl (fun h => ?_) (fun h => ?_)
    · replace k := k.1 (zb1 h)
      refine ex_many (pc' := 30) (ls' := [.ref 33, .int x1, .int x2]) (st' := [.int x2]) (mem' := mem) hS hC 1 rfl ?_
      refine ex_br (P := ¬ x2 = 0) (a := 41) (b := 33) (ls' := [.ref 33, .int x1, .int x2]) (st' := []) (mem' := mem) hS hC rfl (fun h => ?_) (fun h => ?_)
      · replace k := k.1 (h)
        refine ex_many (pc' := 44) (ls' := [.ref 33, .int x1, .int x2]) (st' := [.int x1, .ref 33, .ref 33]) (mem' := mem) hS hC 3 rfl ?_
        refine ex_call (y' := m_X10_sumOf) (rest := [.ref 33]) (ent := [.ref 33, .int x1, .null, .null]) hS hC rfl rfl rfl rfl rfl rfl ?_
        exact k
      · replace k := k.2 (h)
        refine ex_many (pc' := 35) (ls' := [.ref 33, .int x1, .int x2]) (st' := [.int x1, .ref 33]) (mem' := mem) hS hC 2 rfl ?_
        refine ex_call (y' := m_X10_sumOf) (rest := []) (ent := [.ref 33, .int x1, .null, .null]) hS hC rfl rfl rfl rfl rfl rfl ?_
        exact k
    · replace k := k.2 (zb0n h)
      refine ex_many (pc' := 28) (ls' := [.ref 33, .int x1, .int x2]) (st' := [.int (-2)]) (mem' := mem) hS hC 1 rfl ?_
      exact ex_ret (v := (some (.int (-2)))) hS hC rfl rfl rfl k

set_option maxRecDepth 20000 in
theorem bk_X10_bill_38 {ro : pm_RO} {Q : Option Value → pm_M → Prop} {mem : pm_M} {x1 x2 s0 : Int32} (k : Q (some (.int s0)) mem) : pm_Ex ro m_X10_bill 38 [.ref 33, .int x1, .int x2] [.int s0] mem Q := by
  have hS : pm_sig[m_X10_bill]? = some _ := rfl
  have hC : pm_cod[m_X10_bill]? = some _ := rfl
  refine ex_many (pc' := 50) (ls' := [.ref 33, .int x1, .int x2]) (st' := [.int s0]) (mem' := mem) hS hC 1 rfl ?_
  exact ex_ret (v := (some (.int s0))) hS hC rfl rfl rfl k

set_option maxRecDepth 20000 in
theorem bk_X10_bill_47 {ro : pm_RO} {Q : Option Value → pm_M → Prop} {mem : pm_M} {x1 x2 s0 : Int32} (k : pm_Ex ro m_X10_paidFor 0 [.ref 33, .int s0, .null, .null, .null, .null] [] mem (fun v m => pm_Ex ro m_X10_bill 50 [.ref 33, .int x1, .int x2] (v.toList ++ []) m Q)) : pm_Ex ro m_X10_bill 47 [.ref 33, .int x1, .int x2] [.int s0, .ref 33] mem Q := by
  have hS : pm_sig[m_X10_bill]? = some _ := rfl
  have hC : pm_cod[m_X10_bill]? = some _ := rfl
  refine ex_call (y' := m_X10_paidFor) (rest := []) (ent := [.ref 33, .int s0, .null, .null, .null, .null]) hS hC rfl rfl rfl rfl rfl rfl ?_
  exact k

set_option maxRecDepth 20000 in
theorem bk_X10_bill_50 {ro : pm_RO} {Q : Option Value → pm_M → Prop} {mem : pm_M} {x1 x2 s0 : Int32} (k : Q (some (.int s0)) mem) : pm_Ex ro m_X10_bill 50 [.ref 33, .int x1, .int x2] [.int s0] mem Q := by
  have hS : pm_sig[m_X10_bill]? = some _ := rfl
  have hC : pm_cod[m_X10_bill]? = some _ := rfl
  exact ex_ret (v := (some (.int s0))) hS hC rfl rfl rfl k

set_option maxRecDepth 20000 in
theorem bk_X10_findBills_0 {ro : pm_RO} {Q : Option Value → pm_M → Prop} {mem : pm_M} (k : pm_Ex ro m_X10_findBills 2 [.ref 33, .int 0, .null, .null, .null, .null, .null] [] mem Q) : pm_Ex ro m_X10_findBills 0 [.ref 33, .null, .null, .null, .null, .null, .null] [] mem Q := by
  have hS : pm_sig[m_X10_findBills]? = some _ := rfl
  have hC : pm_cod[m_X10_findBills]? = some _ := rfl
  refine ex_many (pc' := 2) (ls' := [.ref 33, .int 0, .null, .null, .null, .null, .null]) (st' := []) (mem' := mem) hS hC 2 rfl ?_
  exact k

set_option maxRecDepth 20000 in
theorem bk_X10_findBills_2 {ro : pm_RO} {Q : Option Value → pm_M → Prop} {mem : pm_M} {x1 : Int32} (k : ((((1 : Int32) <<< ((mem 33 8) &&& 31)) - 1) < x1 → pm_Ex ro m_X10_findBills 71 [.ref 33, .int 1, .null, .null, .null, .null, .null] [] mem Q) ∧ (¬ ((((1 : Int32) <<< ((mem 33 8) &&& 31)) - 1) < x1) → pm_Ex ro m_X10_sumOf 0 [.ref 33, .int x1, .null, .null] [] mem (fun v m => pm_Ex ro m_X10_findBills 21 [.ref 33, .int x1, .null, .null, .null, .null, .null] (v.toList ++ [.ref 33, .int x1, .ref 44]) m Q))) : pm_Ex ro m_X10_findBills 2 [.ref 33, .int x1, .null, .null, .null, .null, .null] [] mem Q := by
  have hS : pm_sig[m_X10_findBills]? = some _ := rfl
  have hC : pm_cod[m_X10_findBills]? = some _ := rfl
  refine ex_many (pc' := 4) (ls' := [.ref 33, .int x1, .null, .null, .null, .null, .null]) (st' := [.ref 33, .int x1]) (mem' := mem) hS hC 2 rfl ?_
  refine ex_call (y' := m_X10_whole) (rest := [.int x1]) (ent := [.ref 33]) hS hC rfl rfl rfl rfl rfl rfl ?_
  refine bk_X10_whole_0 ?_
  show pm_Ex ro m_X10_findBills 7 [.ref 33, .int x1, .null, .null, .null, .null, .null] [.int (((1 : Int32) <<< ((mem 33 8) &&& 31)) - 1), .int x1] mem Q
  refine ex_br (P := (((1 : Int32) <<< ((mem 33 8) &&& 31)) - 1) < x1) (a := 69) (b := 10) (ls' := [.ref 33, .int x1, .null, .null, .null, .null, .null]) (st' := []) (mem' := mem) hS hC rfl (fun h => ?_) (fun h => ?_)
  · replace k := k.1 (h)
    refine ex_many (pc' := 71) (ls' := [.ref 33, .int 1, .null, .null, .null, .null, .null]) (st' := []) (mem' := mem) hS hC 2 rfl ?_
    exact k
  · replace k := k.2 (h)
    refine ex_many (pc' := 18) (ls' := [.ref 33, .int x1, .null, .null, .null, .null, .null]) (st' := [.int x1, .ref 33, .ref 33, .int x1, .ref 44]) (mem' := mem) hS hC 6 rfl ?_
    refine ex_call (y' := m_X10_sumOf) (rest := [.ref 33, .int x1, .ref 44]) (ent := [.ref 33, .int x1, .null, .null]) hS hC rfl rfl rfl rfl rfl rfl ?_
    exact k

set_option maxRecDepth 20000 in
theorem bk_X10_findBills_71 {ro : pm_RO} {Q : Option Value → pm_M → Prop} {mem : pm_M} {x1 : Int32} (k : ((mem 41 3) < x1 → Q none mem) ∧ (¬ ((mem 41 3) < x1) → pm_Ex ro m_X10_findBills 83 [.ref 33, .int x1, .int 0, .null, .null, .null, .null] [] mem Q)) : pm_Ex ro m_X10_findBills 71 [.ref 33, .int x1, .null, .null, .null, .null, .null] [] mem Q := by
  have hS : pm_sig[m_X10_findBills]? = some _ := rfl
  have hC : pm_cod[m_X10_findBills]? = some _ := rfl
  refine ex_many (pc' := 78) (ls' := [.ref 33, .int x1, .null, .null, .null, .null, .null]) (st' := [.int (mem 41 3), .int x1]) (mem' := mem) hS hC 5 rfl ?_
  refine ex_br (P := (mem 41 3) < x1) (a := 293) (b := 81) (ls' := [.ref 33, .int x1, .null, .null, .null, .null, .null]) (st' := []) (mem' := mem) hS hC rfl (fun h => ?_) (fun h => ?_)
  · replace k := k.1 (h)
    exact ex_ret (v := none) hS hC rfl rfl rfl k
  · replace k := k.2 (h)
    refine ex_many (pc' := 83) (ls' := [.ref 33, .int x1, .int 0, .null, .null, .null, .null]) (st' := []) (mem' := mem) hS hC 2 rfl ?_
    exact k

set_option maxRecDepth 20000 in
theorem bk_X10_findBills_83 {ro : pm_RO} {Q : Option Value → pm_M → Prop} {mem : pm_M} {x1 x2 : Int32} (k : ((((1 : Int32) <<< ((mem 33 8) &&& 31)) - 1) < x2 → pm_Ex ro m_X10_findBills 71 [.ref 33, .int (x1 + 1), .int x2, .null, .null, .null, .null] [] mem Q) ∧ (¬ ((((1 : Int32) <<< ((mem 33 8) &&& 31)) - 1) < x2) → (pm_inb ((256 * x1) + x2) 1280 = true) ∧ ((pm_inb ((256 * x1) + x2) 1280 = true) ∧ (pm_Ex ro m_X10_findBills 123 [.ref 33, .int x1, .int x2, .int ((256 * x1) + x2), .int (x2 &&& (-x2)), .int x2, .null] [] (pm_up (pm_up mem 42 (((256 * x1) + x2).toNatClampNeg) 100000000) 43 (((256 * x1) + x2).toNatClampNeg) (-1)) Q)))) : pm_Ex ro m_X10_findBills 83 [.ref 33, .int x1, .int x2, .null, .null, .null, .null] [] mem Q := by
  have hS : pm_sig[m_X10_findBills]? = some _ := rfl
  have hC : pm_cod[m_X10_findBills]? = some _ := rfl
  refine ex_many (pc' := 85) (ls' := [.ref 33, .int x1, .int x2, .null, .null, .null, .null]) (st' := [.ref 33, .int x2]) (mem' := mem) hS hC 2 rfl ?_
  refine ex_call (y' := m_X10_whole) (rest := [.int x2]) (ent := [.ref 33]) hS hC rfl rfl rfl rfl rfl rfl ?_
  refine bk_X10_whole_0 ?_
  show pm_Ex ro m_X10_findBills 88 [.ref 33, .int x1, .int x2, .null, .null, .null, .null] [.int (((1 : Int32) <<< ((mem 33 8) &&& 31)) - 1), .int x2] mem Q
  refine ex_br (P := (((1 : Int32) <<< ((mem 33 8) &&& 31)) - 1) < x2) (a := 287) (b := 91) (ls' := [.ref 33, .int x1, .int x2, .null, .null, .null, .null]) (st' := []) (mem' := mem) hS hC rfl (fun h => ?_) (fun h => ?_)
  · replace k := k.1 (h)
    refine ex_many (pc' := 71) (ls' := [.ref 33, .int (x1 + 1), .int x2, .null, .null, .null, .null]) (st' := []) (mem' := mem) hS hC 2 rfl ?_
    exact k
  · replace k := k.2 (h)
    refine ex_many (pc' := 106) (ls' := [.ref 33, .int x1, .int x2, .int ((256 * x1) + x2), .null, .null, .null]) (st' := [.int 100000000, .int ((256 * x1) + x2), .ref 42]) (mem' := mem) hS hC 10 rfl ?_
    refine ex_grd (b := pm_inb ((256 * x1) + x2) 1280) (pc' := 107) (ls' := [.ref 33, .int x1, .int x2, .int ((256 * x1) + x2), .null, .null, .null]) (st' := []) (mem' := pm_up mem 42 (((256 * x1) + x2).toNatClampNeg) 100000000) hS hC rfl k.1 ?_
    replace k := k.2
    refine ex_many (pc' := 113) (ls' := [.ref 33, .int x1, .int x2, .int ((256 * x1) + x2), .null, .null, .null]) (st' := [.int (-1), .int ((256 * x1) + x2), .ref 43]) (mem' := pm_up mem 42 (((256 * x1) + x2).toNatClampNeg) 100000000) hS hC 4 rfl ?_
    refine ex_grd (b := pm_inb ((256 * x1) + x2) 1280) (pc' := 114) (ls' := [.ref 33, .int x1, .int x2, .int ((256 * x1) + x2), .null, .null, .null]) (st' := []) (mem' := pm_up (pm_up mem 42 (((256 * x1) + x2).toNatClampNeg) 100000000) 43 (((256 * x1) + x2).toNatClampNeg) (-1)) hS hC rfl k.1 ?_
    replace k := k.2
    refine ex_many (pc' := 123) (ls' := [.ref 33, .int x1, .int x2, .int ((256 * x1) + x2), .int (x2 &&& (-x2)), .int x2, .null]) (st' := []) (mem' := pm_up (pm_up mem 42 (((256 * x1) + x2).toNatClampNeg) 100000000) 43 (((256 * x1) + x2).toNatClampNeg) (-1)) hS hC 7 rfl ?_
    exact k

set_option maxRecDepth 20000 in
theorem bk_X10_findBills_123 {ro : pm_RO} {Q : Option Value → pm_M → Prop} {mem : pm_M} {x1 x2 x3 x4 x5 : Int32} (k : (x5 ≤ 0 → pm_Ex ro m_X10_findBills 83 [.ref 33, .int x1, .int (x2 + 1), .int x3, .int x4, .int x5, .null] [] mem Q) ∧ (¬ (x5 ≤ 0) → ((x5 &&& x4) = 0 → pm_Ex ro m_X10_findBills 123 [.ref 33, .int x1, .int x2, .int x3, .int x4, .int ((x5 - 1) &&& x2), .int ((256 * (x1 - 1)) + (x2 &&& (x5 ^^^ (-1))))] [] mem Q) ∧ (¬ ((x5 &&& x4) = 0) → (pm_inb ((256 * (x1 - 1)) + (x2 &&& (x5 ^^^ (-1)))) 1280 = true) ∧ (((mem 43 (((256 * (x1 - 1)) + (x2 &&& (x5 ^^^ (-1)))).toNatClampNeg)) < 0 → pm_Ex ro m_X10_findBills 123 [.ref 33, .int x1, .int x2, .int x3, .int x4, .int ((x5 - 1) &&& x2), .int ((256 * (x1 - 1)) + (x2 &&& (x5 ^^^ (-1))))] [] mem Q) ∧ (¬ ((mem 43 (((256 * (x1 - 1)) + (x2 &&& (x5 ^^^ (-1)))).toNatClampNeg)) < 0) → (pm_inb x5 256 = true) ∧ ((pm_inb ((256 * (x1 - 1)) + (x2 &&& (x5 ^^^ (-1)))) 1280 = true) ∧ ((pm_inb x3 1280 = true) ∧ (((mem 42 x3.toNatClampNeg) ≤ ((mem 44 x5.toNatClampNeg) + (mem 42 (((256 * (x1 - 1)) + (x2 &&& (x5 ^^^ (-1)))).toNatClampNeg))) → (pm_inb x3 1280 = true) ∧ ((pm_inb x3 1280 = true) ∧ ((pm_inb x5 256 = true) ∧ ((pm_inb ((256 * (x1 - 1)) + (x2 &&& (x5 ^^^ (-1)))) 1280 = true) ∧ ((pm_inb x3 1280 = true) ∧ ((((mem 44 x5.toNatClampNeg) + (mem 43 (((256 * (x1 - 1)) + (x2 &&& (x5 ^^^ (-1)))).toNatClampNeg))) ≤ (mem 43 x3.toNatClampNeg) → (pm_inb x3 1280 = true) ∧ ((pm_inb x3 1280 = true) ∧ (pm_Ex ro m_X10_findBills 123 [.ref 33, .int x1, .int x2, .int x3, .int x4, .int ((x5 - 1) &&& x2), .int ((256 * (x1 - 1)) + (x2 &&& (x5 ^^^ (-1))))] [] (pm_up (pm_up mem 42 x3.toNatClampNeg (mem 42 x3.toNatClampNeg)) 43 x3.toNatClampNeg (mem 43 x3.toNatClampNeg)) Q))) ∧ (¬ (((mem 44 x5.toNatClampNeg) + (mem 43 (((256 * (x1 - 1)) + (x2 &&& (x5 ^^^ (-1)))).toNatClampNeg))) ≤ (mem 43 x3.toNatClampNeg)) → (pm_inb x5 256 = true) ∧ ((pm_inb ((256 * (x1 - 1)) + (x2 &&& (x5 ^^^ (-1)))) 1280 = true) ∧ ((pm_inb x3 1280 = true) ∧ (pm_Ex ro m_X10_findBills 123 [.ref 33, .int x1, .int x2, .int x3, .int x4, .int ((x5 - 1) &&& x2), .int ((256 * (x1 - 1)) + (x2 &&& (x5 ^^^ (-1))))] [] (pm_up (pm_up mem 42 x3.toNatClampNeg (mem 42 x3.toNatClampNeg)) 43 x3.toNatClampNeg ((mem 44 x5.toNatClampNeg) + (mem 43 (((256 * (x1 - 1)) + (x2 &&& (x5 ^^^ (-1)))).toNatClampNeg)))) Q)))))))))) ∧ (¬ ((mem 42 x3.toNatClampNeg) ≤ ((mem 44 x5.toNatClampNeg) + (mem 42 (((256 * (x1 - 1)) + (x2 &&& (x5 ^^^ (-1)))).toNatClampNeg)))) → (pm_inb x5 256 = true) ∧ ((pm_inb ((256 * (x1 - 1)) + (x2 &&& (x5 ^^^ (-1)))) 1280 = true) ∧ ((pm_inb x3 1280 = true) ∧ ((pm_inb x5 256 = true) ∧ ((pm_inb ((256 * (x1 - 1)) + (x2 &&& (x5 ^^^ (-1)))) 1280 = true) ∧ ((pm_inb x3 1280 = true) ∧ ((((mem 44 x5.toNatClampNeg) + (mem 43 (((256 * (x1 - 1)) + (x2 &&& (x5 ^^^ (-1)))).toNatClampNeg))) ≤ (mem 43 x3.toNatClampNeg) → (pm_inb x3 1280 = true) ∧ ((pm_inb x3 1280 = true) ∧ (pm_Ex ro m_X10_findBills 123 [.ref 33, .int x1, .int x2, .int x3, .int x4, .int ((x5 - 1) &&& x2), .int ((256 * (x1 - 1)) + (x2 &&& (x5 ^^^ (-1))))] [] (pm_up (pm_up mem 42 x3.toNatClampNeg ((mem 44 x5.toNatClampNeg) + (mem 42 (((256 * (x1 - 1)) + (x2 &&& (x5 ^^^ (-1)))).toNatClampNeg)))) 43 x3.toNatClampNeg (mem 43 x3.toNatClampNeg)) Q))) ∧ (¬ (((mem 44 x5.toNatClampNeg) + (mem 43 (((256 * (x1 - 1)) + (x2 &&& (x5 ^^^ (-1)))).toNatClampNeg))) ≤ (mem 43 x3.toNatClampNeg)) → (pm_inb x5 256 = true) ∧ ((pm_inb ((256 * (x1 - 1)) + (x2 &&& (x5 ^^^ (-1)))) 1280 = true) ∧ ((pm_inb x3 1280 = true) ∧ (pm_Ex ro m_X10_findBills 123 [.ref 33, .int x1, .int x2, .int x3, .int x4, .int ((x5 - 1) &&& x2), .int ((256 * (x1 - 1)) + (x2 &&& (x5 ^^^ (-1))))] [] (pm_up (pm_up mem 42 x3.toNatClampNeg ((mem 44 x5.toNatClampNeg) + (mem 42 (((256 * (x1 - 1)) + (x2 &&& (x5 ^^^ (-1)))).toNatClampNeg)))) 43 x3.toNatClampNeg ((mem 44 x5.toNatClampNeg) + (mem 43 (((256 * (x1 - 1)) + (x2 &&& (x5 ^^^ (-1)))).toNatClampNeg)))) Q))))))))))))))))))) : pm_Ex ro m_X10_findBills 123 [.ref 33, .int x1, .int x2, .int x3, .int x4, .int x5, .null] [] mem Q := by
  have hS : pm_sig[m_X10_findBills]? = some _ := rfl
  have hC : pm_cod[m_X10_findBills]? = some _ := rfl
  refine ex_many (pc' := 125) (ls' := [.ref 33, .int x1, .int x2, .int x3, .int x4, .int x5, .null]) (st' := [.int x5]) (mem' := mem) hS hC 1 rfl ?_
  refine ex_br (P := x5 ≤ 0) (a := 281) (b := 128) (ls' := [.ref 33, .int x1, .int x2, .int x3, .int x4, .int x5, .null]) (st' := []) (mem' := mem) hS hC rfl (fun h => ?_) (fun h => ?_)
  · replace k := k.1 (h)
    refine ex_many (pc' := 83) (ls' := [.ref 33, .int x1, .int (x2 + 1), .int x3, .int x4, .int x5, .null]) (st' := []) (mem' := mem) hS hC 2 rfl ?_
    exact k
  · replace k := k.2 (h)
    refine ex_many (pc' := 149) (ls' := [.ref 33, .int x1, .int x2, .int x3, .int x4, .int x5, .int ((256 * (x1 - 1)) + (x2 &&& (x5 ^^^ (-1))))]) (st' := [.int (x5 &&& x4)]) (mem' := mem) hS hC 15 rfl ?_
    refine ex_br (P := (x5 &&& x4) = 0) (a := 270) (b := 152) (ls' := [.ref 33, .int x1, .int x2, .int x3, .int x4, .int x5, .int ((256 * (x1 - 1)) + (x2 &&& (x5 ^^^ (-1))))]) (st' := []) (mem' := mem) hS hC rfl (fun h => ?_) (fun h => ?_)
    · replace k := k.1 (h)
      refine ex_many (pc' := 123) (ls' := [.ref 33, .int x1, .int x2, .int x3, .int x4, .int ((x5 - 1) &&& x2), .int ((256 * (x1 - 1)) + (x2 &&& (x5 ^^^ (-1))))]) (st' := []) (mem' := mem) hS hC 7 rfl ?_
      exact k
    · replace k := k.2 (h)
      refine ex_many (pc' := 158) (ls' := [.ref 33, .int x1, .int x2, .int x3, .int x4, .int x5, .int ((256 * (x1 - 1)) + (x2 &&& (x5 ^^^ (-1))))]) (st' := [.int ((256 * (x1 - 1)) + (x2 &&& (x5 ^^^ (-1)))), .ref 43]) (mem' := mem) hS hC 3 rfl ?_
      refine ex_grd (b := pm_inb ((256 * (x1 - 1)) + (x2 &&& (x5 ^^^ (-1)))) 1280) (pc' := 159) (ls' := [.ref 33, .int x1, .int x2, .int x3, .int x4, .int x5, .int ((256 * (x1 - 1)) + (x2 &&& (x5 ^^^ (-1))))]) (st' := [.int (mem 43 (((256 * (x1 - 1)) + (x2 &&& (x5 ^^^ (-1)))).toNatClampNeg))]) (mem' := mem) hS hC rfl k.1 ?_
      replace k := k.2
      refine ex_br (P := (mem 43 (((256 * (x1 - 1)) + (x2 &&& (x5 ^^^ (-1)))).toNatClampNeg)) < 0) (a := 270) (b := 162) (ls' := [.ref 33, .int x1, .int x2, .int x3, .int x4, .int x5, .int ((256 * (x1 - 1)) + (x2 &&& (x5 ^^^ (-1))))]) (st' := []) (mem' := mem) hS hC rfl (fun h => ?_) (fun h => ?_)
      · replace k := k.1 (h)
        refine ex_many (pc' := 123) (ls' := [.ref 33, .int x1, .int x2, .int x3, .int x4, .int ((x5 - 1) &&& x2), .int ((256 * (x1 - 1)) + (x2 &&& (x5 ^^^ (-1))))]) (st' := []) (mem' := mem) hS hC 7 rfl ?_
        exact k
      · replace k := k.2 (h)
        refine ex_many (pc' := 173) (ls' := [.ref 33, .int x1, .int x2, .int x3, .int x4, .int x5, .int ((256 * (x1 - 1)) + (x2 &&& (x5 ^^^ (-1))))]) (st' := [.int x5, .ref 44, .int x3, .ref 42]) (mem' := mem) hS hC 6 rfl ?_
        refine ex_grd (b := pm_inb x5 256) (pc' := 174) (ls' := [.ref 33, .int x1, .int x2, .int x3, .int x4, .int x5, .int ((256 * (x1 - 1)) + (x2 &&& (x5 ^^^ (-1))))]) (st' := [.int (mem 44 x5.toNatClampNeg), .int x3, .ref 42]) (mem' := mem) hS hC rfl k.1 ?_
        replace k := k.2
        refine ex_many (pc' := 180) (ls' := [.ref 33, .int x1, .int x2, .int x3, .int x4, .int x5, .int ((256 * (x1 - 1)) + (x2 &&& (x5 ^^^ (-1))))]) (st' := [.int ((256 * (x1 - 1)) + (x2 &&& (x5 ^^^ (-1)))), .ref 42, .int (mem 44 x5.toNatClampNeg), .int x3, .ref 42]) (mem' := mem) hS hC 3 rfl ?_
        refine ex_grd (b := pm_inb ((256 * (x1 - 1)) + (x2 &&& (x5 ^^^ (-1)))) 1280) (pc' := 181) (ls' := [.ref 33, .int x1, .int x2, .int x3, .int x4, .int x5, .int ((256 * (x1 - 1)) + (x2 &&& (x5 ^^^ (-1))))]) (st' := [.int (mem 42 (((256 * (x1 - 1)) + (x2 &&& (x5 ^^^ (-1)))).toNatClampNeg)), .int (mem 44 x5.toNatClampNeg), .int x3, .ref 42]) (mem' := mem) hS hC rfl k.1 ?_
        replace k := k.2
        refine ex_many (pc' := 187) (ls' := [.ref 33, .int x1, .int x2, .int x3, .int x4, .int x5, .int ((256 * (x1 - 1)) + (x2 &&& (x5 ^^^ (-1))))]) (st' := [.int x3, .ref 42, .int ((mem 44 x5.toNatClampNeg) + (mem 42 (((256 * (x1 - 1)) + (x2 &&& (x5 ^^^ (-1)))).toNatClampNeg))), .int x3, .ref 42]) (mem' := mem) hS hC 4 rfl ?_
        refine ex_grd (b := pm_inb x3 1280) (pc' := 188) (ls' := [.ref 33, .int x1, .int x2, .int x3, .int x4, .int x5, .int ((256 * (x1 - 1)) + (x2 &&& (x5 ^^^ (-1))))]) (st' := [.int (mem 42 x3.toNatClampNeg), .int ((mem 44 x5.toNatClampNeg) + (mem 42 (((256 * (x1 - 1)) + (x2 &&& (x5 ^^^ (-1)))).toNatClampNeg))), .int x3, .ref 42]) (mem' := mem) hS hC rfl k.1 ?_
        replace k := k.2
        refine ex_br (P := (mem 42 x3.toNatClampNeg) ≤ ((mem 44 x5.toNatClampNeg) + (mem 42 (((256 * (x1 - 1)) + (x2 &&& (x5 ^^^ (-1)))).toNatClampNeg)))) (a := 209) (b := 191) (ls' := [.ref 33, .int x1, .int x2, .int x3, .int x4, .int x5, .int ((256 * (x1 - 1)) + (x2 &&& (x5 ^^^ (-1))))]) (st' := [.int x3, .ref 42]) (mem' := mem) hS hC rfl (fun h => ?_) (fun h => ?_)
        · replace k := k.1 (h)
          refine ex_many (pc' := 214) (ls' := [.ref 33, .int x1, .int x2, .int x3, .int x4, .int x5, .int ((256 * (x1 - 1)) + (x2 &&& (x5 ^^^ (-1))))]) (st' := [.int x3, .ref 42, .int x3, .ref 42]) (mem' := mem) hS hC 3 rfl ?_
          refine ex_grd (b := pm_inb x3 1280) (pc' := 215) (ls' := [.ref 33, .int x1, .int x2, .int x3, .int x4, .int x5, .int ((256 * (x1 - 1)) + (x2 &&& (x5 ^^^ (-1))))]) (st' := [.int (mem 42 x3.toNatClampNeg), .int x3, .ref 42]) (mem' := mem) hS hC rfl k.1 ?_
          replace k := k.2
          refine ex_grd (b := pm_inb x3 1280) (pc' := 216) (ls' := [.ref 33, .int x1, .int x2, .int x3, .int x4, .int x5, .int ((256 * (x1 - 1)) + (x2 &&& (x5 ^^^ (-1))))]) (st' := []) (mem' := pm_up mem 42 x3.toNatClampNeg (mem 42 x3.toNatClampNeg)) hS hC rfl k.1 ?_
          replace k := k.2
          refine ex_many (pc' := 227) (ls' := [.ref 33, .int x1, .int x2, .int x3, .int x4, .int x5, .int ((256 * (x1 - 1)) + (x2 &&& (x5 ^^^ (-1))))]) (st' := [.int x5, .ref 44, .int x3, .ref 43]) (mem' := pm_up mem 42 x3.toNatClampNeg (mem 42 x3.toNatClampNeg)) hS hC 6 rfl ?_
          refine ex_grd (b := pm_inb x5 256) (pc' := 228) (ls' := [.ref 33, .int x1, .int x2, .int x3, .int x4, .int x5, .int ((256 * (x1 - 1)) + (x2 &&& (x5 ^^^ (-1))))]) (st' := [.int (mem 44 x5.toNatClampNeg), .int x3, .ref 43]) (mem' := pm_up mem 42 x3.toNatClampNeg (mem 42 x3.toNatClampNeg)) hS hC rfl k.1 ?_
          replace k := k.2
          refine ex_many (pc' := 234) (ls' := [.ref 33, .int x1, .int x2, .int x3, .int x4, .int x5, .int ((256 * (x1 - 1)) + (x2 &&& (x5 ^^^ (-1))))]) (st' := [.int ((256 * (x1 - 1)) + (x2 &&& (x5 ^^^ (-1)))), .ref 43, .int (mem 44 x5.toNatClampNeg), .int x3, .ref 43]) (mem' := pm_up mem 42 x3.toNatClampNeg (mem 42 x3.toNatClampNeg)) hS hC 3 rfl ?_
          refine ex_grd (b := pm_inb ((256 * (x1 - 1)) + (x2 &&& (x5 ^^^ (-1)))) 1280) (pc' := 235) (ls' := [.ref 33, .int x1, .int x2, .int x3, .int x4, .int x5, .int ((256 * (x1 - 1)) + (x2 &&& (x5 ^^^ (-1))))]) (st' := [.int (mem 43 (((256 * (x1 - 1)) + (x2 &&& (x5 ^^^ (-1)))).toNatClampNeg)), .int (mem 44 x5.toNatClampNeg), .int x3, .ref 43]) (mem' := pm_up mem 42 x3.toNatClampNeg (mem 42 x3.toNatClampNeg)) hS hC rfl k.1 ?_
          replace k := k.2
          refine ex_many (pc' := 241) (ls' := [.ref 33, .int x1, .int x2, .int x3, .int x4, .int x5, .int ((256 * (x1 - 1)) + (x2 &&& (x5 ^^^ (-1))))]) (st' := [.int x3, .ref 43, .int ((mem 44 x5.toNatClampNeg) + (mem 43 (((256 * (x1 - 1)) + (x2 &&& (x5 ^^^ (-1)))).toNatClampNeg))), .int x3, .ref 43]) (mem' := pm_up mem 42 x3.toNatClampNeg (mem 42 x3.toNatClampNeg)) hS hC 4 rfl ?_
          refine ex_grd (b := pm_inb x3 1280) (pc' := 242) (ls' := [.ref 33, .int x1, .int x2, .int x3, .int x4, .int x5, .int ((256 * (x1 - 1)) + (x2 &&& (x5 ^^^ (-1))))]) (st' := [.int (mem 43 x3.toNatClampNeg), .int ((mem 44 x5.toNatClampNeg) + (mem 43 (((256 * (x1 - 1)) + (x2 &&& (x5 ^^^ (-1)))).toNatClampNeg))), .int x3, .ref 43]) (mem' := pm_up mem 42 x3.toNatClampNeg (mem 42 x3.toNatClampNeg)) hS hC rfl k.1 ?_
          replace k := k.2
          refine ex_br (P := ((mem 44 x5.toNatClampNeg) + (mem 43 (((256 * (x1 - 1)) + (x2 &&& (x5 ^^^ (-1)))).toNatClampNeg))) ≤ (mem 43 x3.toNatClampNeg)) (a := 263) (b := 245) (ls' := [.ref 33, .int x1, .int x2, .int x3, .int x4, .int x5, .int ((256 * (x1 - 1)) + (x2 &&& (x5 ^^^ (-1))))]) (st' := [.int x3, .ref 43]) (mem' := pm_up mem 42 x3.toNatClampNeg (mem 42 x3.toNatClampNeg)) hS hC rfl (fun h => ?_) (fun h => ?_)
          · replace k := k.1 (h)
            refine ex_many (pc' := 268) (ls' := [.ref 33, .int x1, .int x2, .int x3, .int x4, .int x5, .int ((256 * (x1 - 1)) + (x2 &&& (x5 ^^^ (-1))))]) (st' := [.int x3, .ref 43, .int x3, .ref 43]) (mem' := pm_up mem 42 x3.toNatClampNeg (mem 42 x3.toNatClampNeg)) hS hC 3 rfl ?_
            refine ex_grd (b := pm_inb x3 1280) (pc' := 269) (ls' := [.ref 33, .int x1, .int x2, .int x3, .int x4, .int x5, .int ((256 * (x1 - 1)) + (x2 &&& (x5 ^^^ (-1))))]) (st' := [.int (mem 43 x3.toNatClampNeg), .int x3, .ref 43]) (mem' := pm_up mem 42 x3.toNatClampNeg (mem 42 x3.toNatClampNeg)) hS hC rfl k.1 ?_
            replace k := k.2
            refine ex_grd (b := pm_inb x3 1280) (pc' := 270) (ls' := [.ref 33, .int x1, .int x2, .int x3, .int x4, .int x5, .int ((256 * (x1 - 1)) + (x2 &&& (x5 ^^^ (-1))))]) (st' := []) (mem' := pm_up (pm_up mem 42 x3.toNatClampNeg (mem 42 x3.toNatClampNeg)) 43 x3.toNatClampNeg (mem 43 x3.toNatClampNeg)) hS hC rfl k.1 ?_
            replace k := k.2
            refine ex_many (pc' := 123) (ls' := [.ref 33, .int x1, .int x2, .int x3, .int x4, .int ((x5 - 1) &&& x2), .int ((256 * (x1 - 1)) + (x2 &&& (x5 ^^^ (-1))))]) (st' := []) (mem' := pm_up (pm_up mem 42 x3.toNatClampNeg (mem 42 x3.toNatClampNeg)) 43 x3.toNatClampNeg (mem 43 x3.toNatClampNeg)) hS hC 7 rfl ?_
            exact k
          · replace k := k.2 (h)
            refine ex_many (pc' := 251) (ls' := [.ref 33, .int x1, .int x2, .int x3, .int x4, .int x5, .int ((256 * (x1 - 1)) + (x2 &&& (x5 ^^^ (-1))))]) (st' := [.int x5, .ref 44, .int x3, .ref 43]) (mem' := pm_up mem 42 x3.toNatClampNeg (mem 42 x3.toNatClampNeg)) hS hC 3 rfl ?_
            refine ex_grd (b := pm_inb x5 256) (pc' := 252) (ls' := [.ref 33, .int x1, .int x2, .int x3, .int x4, .int x5, .int ((256 * (x1 - 1)) + (x2 &&& (x5 ^^^ (-1))))]) (st' := [.int (mem 44 x5.toNatClampNeg), .int x3, .ref 43]) (mem' := pm_up mem 42 x3.toNatClampNeg (mem 42 x3.toNatClampNeg)) hS hC rfl k.1 ?_
            replace k := k.2
            refine ex_many (pc' := 258) (ls' := [.ref 33, .int x1, .int x2, .int x3, .int x4, .int x5, .int ((256 * (x1 - 1)) + (x2 &&& (x5 ^^^ (-1))))]) (st' := [.int ((256 * (x1 - 1)) + (x2 &&& (x5 ^^^ (-1)))), .ref 43, .int (mem 44 x5.toNatClampNeg), .int x3, .ref 43]) (mem' := pm_up mem 42 x3.toNatClampNeg (mem 42 x3.toNatClampNeg)) hS hC 3 rfl ?_
            refine ex_grd (b := pm_inb ((256 * (x1 - 1)) + (x2 &&& (x5 ^^^ (-1)))) 1280) (pc' := 259) (ls' := [.ref 33, .int x1, .int x2, .int x3, .int x4, .int x5, .int ((256 * (x1 - 1)) + (x2 &&& (x5 ^^^ (-1))))]) (st' := [.int (mem 43 (((256 * (x1 - 1)) + (x2 &&& (x5 ^^^ (-1)))).toNatClampNeg)), .int (mem 44 x5.toNatClampNeg), .int x3, .ref 43]) (mem' := pm_up mem 42 x3.toNatClampNeg (mem 42 x3.toNatClampNeg)) hS hC rfl k.1 ?_
            replace k := k.2
            refine ex_many (pc' := 269) (ls' := [.ref 33, .int x1, .int x2, .int x3, .int x4, .int x5, .int ((256 * (x1 - 1)) + (x2 &&& (x5 ^^^ (-1))))]) (st' := [.int ((mem 44 x5.toNatClampNeg) + (mem 43 (((256 * (x1 - 1)) + (x2 &&& (x5 ^^^ (-1)))).toNatClampNeg))), .int x3, .ref 43]) (mem' := pm_up mem 42 x3.toNatClampNeg (mem 42 x3.toNatClampNeg)) hS hC 2 rfl ?_
            refine ex_grd (b := pm_inb x3 1280) (pc' := 270) (ls' := [.ref 33, .int x1, .int x2, .int x3, .int x4, .int x5, .int ((256 * (x1 - 1)) + (x2 &&& (x5 ^^^ (-1))))]) (st' := []) (mem' := pm_up (pm_up mem 42 x3.toNatClampNeg (mem 42 x3.toNatClampNeg)) 43 x3.toNatClampNeg ((mem 44 x5.toNatClampNeg) + (mem 43 (((256 * (x1 - 1)) + (x2 &&& (x5 ^^^ (-1)))).toNatClampNeg)))) hS hC rfl k.1 ?_
            replace k := k.2
            refine ex_many (pc' := 123) (ls' := [.ref 33, .int x1, .int x2, .int x3, .int x4, .int ((x5 - 1) &&& x2), .int ((256 * (x1 - 1)) + (x2 &&& (x5 ^^^ (-1))))]) (st' := []) (mem' := pm_up (pm_up mem 42 x3.toNatClampNeg (mem 42 x3.toNatClampNeg)) 43 x3.toNatClampNeg ((mem 44 x5.toNatClampNeg) + (mem 43 (((256 * (x1 - 1)) + (x2 &&& (x5 ^^^ (-1)))).toNatClampNeg)))) hS hC 7 rfl ?_
            exact k
        · replace k := k.2 (h)
          refine ex_many (pc' := 197) (ls' := [.ref 33, .int x1, .int x2, .int x3, .int x4, .int x5, .int ((256 * (x1 - 1)) + (x2 &&& (x5 ^^^ (-1))))]) (st' := [.int x5, .ref 44, .int x3, .ref 42]) (mem' := mem) hS hC 3 rfl ?_
          refine ex_grd (b := pm_inb x5 256) (pc' := 198) (ls' := [.ref 33, .int x1, .int x2, .int x3, .int x4, .int x5, .int ((256 * (x1 - 1)) + (x2 &&& (x5 ^^^ (-1))))]) (st' := [.int (mem 44 x5.toNatClampNeg), .int x3, .ref 42]) (mem' := mem) hS hC rfl k.1 ?_
          replace k := k.2
          refine ex_many (pc' := 204) (ls' := [.ref 33, .int x1, .int x2, .int x3, .int x4, .int x5, .int ((256 * (x1 - 1)) + (x2 &&& (x5 ^^^ (-1))))]) (st' := [.int ((256 * (x1 - 1)) + (x2 &&& (x5 ^^^ (-1)))), .ref 42, .int (mem 44 x5.toNatClampNeg), .int x3, .ref 42]) (mem' := mem) hS hC 3 rfl ?_
          refine ex_grd (b := pm_inb ((256 * (x1 - 1)) + (x2 &&& (x5 ^^^ (-1)))) 1280) (pc' := 205) (ls' := [.ref 33, .int x1, .int x2, .int x3, .int x4, .int x5, .int ((256 * (x1 - 1)) + (x2 &&& (x5 ^^^ (-1))))]) (st' := [.int (mem 42 (((256 * (x1 - 1)) + (x2 &&& (x5 ^^^ (-1)))).toNatClampNeg)), .int (mem 44 x5.toNatClampNeg), .int x3, .ref 42]) (mem' := mem) hS hC rfl k.1 ?_
          replace k := k.2
          refine ex_many (pc' := 215) (ls' := [.ref 33, .int x1, .int x2, .int x3, .int x4, .int x5, .int ((256 * (x1 - 1)) + (x2 &&& (x5 ^^^ (-1))))]) (st' := [.int ((mem 44 x5.toNatClampNeg) + (mem 42 (((256 * (x1 - 1)) + (x2 &&& (x5 ^^^ (-1)))).toNatClampNeg))), .int x3, .ref 42]) (mem' := mem) hS hC 2 rfl ?_
          refine ex_grd (b := pm_inb x3 1280) (pc' := 216) (ls' := [.ref 33, .int x1, .int x2, .int x3, .int x4, .int x5, .int ((256 * (x1 - 1)) + (x2 &&& (x5 ^^^ (-1))))]) (st' := []) (mem' := pm_up mem 42 x3.toNatClampNeg ((mem 44 x5.toNatClampNeg) + (mem 42 (((256 * (x1 - 1)) + (x2 &&& (x5 ^^^ (-1)))).toNatClampNeg)))) hS hC rfl k.1 ?_
          replace k := k.2
          refine ex_many (pc' := 227) (ls' := [.ref 33, .int x1, .int x2, .int x3, .int x4, .int x5, .int ((256 * (x1 - 1)) + (x2 &&& (x5 ^^^ (-1))))]) (st' := [.int x5, .ref 44, .int x3, .ref 43]) (mem' := pm_up mem 42 x3.toNatClampNeg ((mem 44 x5.toNatClampNeg) + (mem 42 (((256 * (x1 - 1)) + (x2 &&& (x5 ^^^ (-1)))).toNatClampNeg)))) hS hC 6 rfl ?_
          refine ex_grd (b := pm_inb x5 256) (pc' := 228) (ls' := [.ref 33, .int x1, .int x2, .int x3, .int x4, .int x5, .int ((256 * (x1 - 1)) + (x2 &&& (x5 ^^^ (-1))))]) (st' := [.int (mem 44 x5.toNatClampNeg), .int x3, .ref 43]) (mem' := pm_up mem 42 x3.toNatClampNeg ((mem 44 x5.toNatClampNeg) + (mem 42 (((256 * (x1 - 1)) + (x2 &&& (x5 ^^^ (-1)))).toNatClampNeg)))) hS hC rfl k.1 ?_
          replace k := k.2
          refine ex_many (pc' := 234) (ls' := [.ref 33, .int x1, .int x2, .int x3, .int x4, .int x5, .int ((256 * (x1 - 1)) + (x2 &&& (x5 ^^^ (-1))))]) (st' := [.int ((256 * (x1 - 1)) + (x2 &&& (x5 ^^^ (-1)))), .ref 43, .int (mem 44 x5.toNatClampNeg), .int x3, .ref 43]) (mem' := pm_up mem 42 x3.toNatClampNeg ((mem 44 x5.toNatClampNeg) + (mem 42 (((256 * (x1 - 1)) + (x2 &&& (x5 ^^^ (-1)))).toNatClampNeg)))) hS hC 3 rfl ?_
          refine ex_grd (b := pm_inb ((256 * (x1 - 1)) + (x2 &&& (x5 ^^^ (-1)))) 1280) (pc' := 235) (ls' := [.ref 33, .int x1, .int x2, .int x3, .int x4, .int x5, .int ((256 * (x1 - 1)) + (x2 &&& (x5 ^^^ (-1))))]) (st' := [.int (mem 43 (((256 * (x1 - 1)) + (x2 &&& (x5 ^^^ (-1)))).toNatClampNeg)), .int (mem 44 x5.toNatClampNeg), .int x3, .ref 43]) (mem' := pm_up mem 42 x3.toNatClampNeg ((mem 44 x5.toNatClampNeg) + (mem 42 (((256 * (x1 - 1)) + (x2 &&& (x5 ^^^ (-1)))).toNatClampNeg)))) hS hC rfl k.1 ?_
          replace k := k.2
          refine ex_many (pc' := 241) (ls' := [.ref 33, .int x1, .int x2, .int x3, .int x4, .int x5, .int ((256 * (x1 - 1)) + (x2 &&& (x5 ^^^ (-1))))]) (st' := [.int x3, .ref 43, .int ((mem 44 x5.toNatClampNeg) + (mem 43 (((256 * (x1 - 1)) + (x2 &&& (x5 ^^^ (-1)))).toNatClampNeg))), .int x3, .ref 43]) (mem' := pm_up mem 42 x3.toNatClampNeg ((mem 44 x5.toNatClampNeg) + (mem 42 (((256 * (x1 - 1)) + (x2 &&& (x5 ^^^ (-1)))).toNatClampNeg)))) hS hC 4 rfl ?_
          refine ex_grd (b := pm_inb x3 1280) (pc' := 242) (ls' := [.ref 33, .int x1, .int x2, .int x3, .int x4, .int x5, .int ((256 * (x1 - 1)) + (x2 &&& (x5 ^^^ (-1))))]) (st' := [.int (mem 43 x3.toNatClampNeg), .int ((mem 44 x5.toNatClampNeg) + (mem 43 (((256 * (x1 - 1)) + (x2 &&& (x5 ^^^ (-1)))).toNatClampNeg))), .int x3, .ref 43]) (mem' := pm_up mem 42 x3.toNatClampNeg ((mem 44 x5.toNatClampNeg) + (mem 42 (((256 * (x1 - 1)) + (x2 &&& (x5 ^^^ (-1)))).toNatClampNeg)))) hS hC rfl k.1 ?_
          replace k := k.2
          refine ex_br (P := ((mem 44 x5.toNatClampNeg) + (mem 43 (((256 * (x1 - 1)) + (x2 &&& (x5 ^^^ (-1)))).toNatClampNeg))) ≤ (mem 43 x3.toNatClampNeg)) (a := 263) (b := 245) (ls' := [.ref 33, .int x1, .int x2, .int x3, .int x4, .int x5, .int ((256 * (x1 - 1)) + (x2 &&& (x5 ^^^ (-1))))]) (st' := [.int x3, .ref 43]) (mem' := pm_up mem 42 x3.toNatClampNeg ((mem 44 x5.toNatClampNeg) + (mem 42 (((256 * (x1 - 1)) + (x2 &&& (x5 ^^^ (-1)))).toNatClampNeg)))) hS hC rfl (fun h => ?_) (fun h => ?_)
          · replace k := k.1 (h)
            refine ex_many (pc' := 268) (ls' := [.ref 33, .int x1, .int x2, .int x3, .int x4, .int x5, .int ((256 * (x1 - 1)) + (x2 &&& (x5 ^^^ (-1))))]) (st' := [.int x3, .ref 43, .int x3, .ref 43]) (mem' := pm_up mem 42 x3.toNatClampNeg ((mem 44 x5.toNatClampNeg) + (mem 42 (((256 * (x1 - 1)) + (x2 &&& (x5 ^^^ (-1)))).toNatClampNeg)))) hS hC 3 rfl ?_
            refine ex_grd (b := pm_inb x3 1280) (pc' := 269) (ls' := [.ref 33, .int x1, .int x2, .int x3, .int x4, .int x5, .int ((256 * (x1 - 1)) + (x2 &&& (x5 ^^^ (-1))))]) (st' := [.int (mem 43 x3.toNatClampNeg), .int x3, .ref 43]) (mem' := pm_up mem 42 x3.toNatClampNeg ((mem 44 x5.toNatClampNeg) + (mem 42 (((256 * (x1 - 1)) + (x2 &&& (x5 ^^^ (-1)))).toNatClampNeg)))) hS hC rfl k.1 ?_
            replace k := k.2
            refine ex_grd (b := pm_inb x3 1280) (pc' := 270) (ls' := [.ref 33, .int x1, .int x2, .int x3, .int x4, .int x5, .int ((256 * (x1 - 1)) + (x2 &&& (x5 ^^^ (-1))))]) (st' := []) (mem' := pm_up (pm_up mem 42 x3.toNatClampNeg ((mem 44 x5.toNatClampNeg) + (mem 42 (((256 * (x1 - 1)) + (x2 &&& (x5 ^^^ (-1)))).toNatClampNeg)))) 43 x3.toNatClampNeg (mem 43 x3.toNatClampNeg)) hS hC rfl k.1 ?_
            replace k := k.2
            refine ex_many (pc' := 123) (ls' := [.ref 33, .int x1, .int x2, .int x3, .int x4, .int ((x5 - 1) &&& x2), .int ((256 * (x1 - 1)) + (x2 &&& (x5 ^^^ (-1))))]) (st' := []) (mem' := pm_up (pm_up mem 42 x3.toNatClampNeg ((mem 44 x5.toNatClampNeg) + (mem 42 (((256 * (x1 - 1)) + (x2 &&& (x5 ^^^ (-1)))).toNatClampNeg)))) 43 x3.toNatClampNeg (mem 43 x3.toNatClampNeg)) hS hC 7 rfl ?_
            exact k
          · replace k := k.2 (h)
            refine ex_many (pc' := 251) (ls' := [.ref 33, .int x1, .int x2, .int x3, .int x4, .int x5, .int ((256 * (x1 - 1)) + (x2 &&& (x5 ^^^ (-1))))]) (st' := [.int x5, .ref 44, .int x3, .ref 43]) (mem' := pm_up mem 42 x3.toNatClampNeg ((mem 44 x5.toNatClampNeg) + (mem 42 (((256 * (x1 - 1)) + (x2 &&& (x5 ^^^ (-1)))).toNatClampNeg)))) hS hC 3 rfl ?_
            refine ex_grd (b := pm_inb x5 256) (pc' := 252) (ls' := [.ref 33, .int x1, .int x2, .int x3, .int x4, .int x5, .int ((256 * (x1 - 1)) + (x2 &&& (x5 ^^^ (-1))))]) (st' := [.int (mem 44 x5.toNatClampNeg), .int x3, .ref 43]) (mem' := pm_up mem 42 x3.toNatClampNeg ((mem 44 x5.toNatClampNeg) + (mem 42 (((256 * (x1 - 1)) + (x2 &&& (x5 ^^^ (-1)))).toNatClampNeg)))) hS hC rfl k.1 ?_
            replace k := k.2
            refine ex_many (pc' := 258) (ls' := [.ref 33, .int x1, .int x2, .int x3, .int x4, .int x5, .int ((256 * (x1 - 1)) + (x2 &&& (x5 ^^^ (-1))))]) (st' := [.int ((256 * (x1 - 1)) + (x2 &&& (x5 ^^^ (-1)))), .ref 43, .int (mem 44 x5.toNatClampNeg), .int x3, .ref 43]) (mem' := pm_up mem 42 x3.toNatClampNeg ((mem 44 x5.toNatClampNeg) + (mem 42 (((256 * (x1 - 1)) + (x2 &&& (x5 ^^^ (-1)))).toNatClampNeg)))) hS hC 3 rfl ?_
            refine ex_grd (b := pm_inb ((256 * (x1 - 1)) + (x2 &&& (x5 ^^^ (-1)))) 1280) (pc' := 259) (ls' := [.ref 33, .int x1, .int x2, .int x3, .int x4, .int x5, .int ((256 * (x1 - 1)) + (x2 &&& (x5 ^^^ (-1))))]) (st' := [.int (mem 43 (((256 * (x1 - 1)) + (x2 &&& (x5 ^^^ (-1)))).toNatClampNeg)), .int (mem 44 x5.toNatClampNeg), .int x3, .ref 43]) (mem' := pm_up mem 42 x3.toNatClampNeg ((mem 44 x5.toNatClampNeg) + (mem 42 (((256 * (x1 - 1)) + (x2 &&& (x5 ^^^ (-1)))).toNatClampNeg)))) hS hC rfl k.1 ?_
            replace k := k.2
            refine ex_many (pc' := 269) (ls' := [.ref 33, .int x1, .int x2, .int x3, .int x4, .int x5, .int ((256 * (x1 - 1)) + (x2 &&& (x5 ^^^ (-1))))]) (st' := [.int ((mem 44 x5.toNatClampNeg) + (mem 43 (((256 * (x1 - 1)) + (x2 &&& (x5 ^^^ (-1)))).toNatClampNeg))), .int x3, .ref 43]) (mem' := pm_up mem 42 x3.toNatClampNeg ((mem 44 x5.toNatClampNeg) + (mem 42 (((256 * (x1 - 1)) + (x2 &&& (x5 ^^^ (-1)))).toNatClampNeg)))) hS hC 2 rfl ?_
            refine ex_grd (b := pm_inb x3 1280) (pc' := 270) (ls' := [.ref 33, .int x1, .int x2, .int x3, .int x4, .int x5, .int ((256 * (x1 - 1)) + (x2 &&& (x5 ^^^ (-1))))]) (st' := []) (mem' := pm_up (pm_up mem 42 x3.toNatClampNeg ((mem 44 x5.toNatClampNeg) + (mem 42 (((256 * (x1 - 1)) + (x2 &&& (x5 ^^^ (-1)))).toNatClampNeg)))) 43 x3.toNatClampNeg ((mem 44 x5.toNatClampNeg) + (mem 43 (((256 * (x1 - 1)) + (x2 &&& (x5 ^^^ (-1)))).toNatClampNeg)))) hS hC rfl k.1 ?_
            replace k := k.2
            refine ex_many (pc' := 123) (ls' := [.ref 33, .int x1, .int x2, .int x3, .int x4, .int ((x5 - 1) &&& x2), .int ((256 * (x1 - 1)) + (x2 &&& (x5 ^^^ (-1))))]) (st' := []) (mem' := pm_up (pm_up mem 42 x3.toNatClampNeg ((mem 44 x5.toNatClampNeg) + (mem 42 (((256 * (x1 - 1)) + (x2 &&& (x5 ^^^ (-1)))).toNatClampNeg)))) 43 x3.toNatClampNeg ((mem 44 x5.toNatClampNeg) + (mem 43 (((256 * (x1 - 1)) + (x2 &&& (x5 ^^^ (-1)))).toNatClampNeg)))) hS hC 7 rfl ?_
            exact k

set_option maxRecDepth 20000 in
theorem bk_X10_findBills_21 {ro : pm_RO} {Q : Option Value → pm_M → Prop} {mem : pm_M} {x1 s0 s2 : Int32} (k : pm_Ex ro m_X10_paidFor 0 [.ref 33, .int s0, .null, .null, .null, .null] [] mem (fun v m => pm_Ex ro m_X10_findBills 24 [.ref 33, .int x1, .null, .null, .null, .null, .null] (v.toList ++ [.int s2, .ref 44]) m Q)) : pm_Ex ro m_X10_findBills 21 [.ref 33, .int x1, .null, .null, .null, .null, .null] [.int s0, .ref 33, .int s2, .ref 44] mem Q := by
  have hS : pm_sig[m_X10_findBills]? = some _ := rfl
  have hC : pm_cod[m_X10_findBills]? = some _ := rfl
  refine ex_call (y' := m_X10_paidFor) (rest := [.int s2, .ref 44]) (ent := [.ref 33, .int s0, .null, .null, .null, .null]) hS hC rfl rfl rfl rfl rfl rfl ?_
  exact k

set_option maxRecDepth 20000 in
theorem bk_X10_findBills_24 {ro : pm_RO} {Q : Option Value → pm_M → Prop} {mem : pm_M} {x1 s0 s1 : Int32} (k : (pm_inb s1 256 = true) ∧ ((pm_inb x1 1280 = true) ∧ ((pm_inb x1 1280 = true) ∧ (pm_Ex ro m_X10_findBills 2 [.ref 33, .int (x1 + 1), .null, .null, .null, .null, .null] [] (pm_up (pm_up (pm_up mem 44 s1.toNatClampNeg (s0 + (mem 41 2))) 42 x1.toNatClampNeg (if ¬ x1 = 0 then 100000000 else 0 : Int32)) 43 x1.toNatClampNeg (if ¬ x1 = 0 then -1 else 0 : Int32)) Q)))) : pm_Ex ro m_X10_findBills 24 [.ref 33, .int x1, .null, .null, .null, .null, .null] [.int s0, .int s1, .ref 44] mem Q := by
  have hS : pm_sig[m_X10_findBills]? = some _ := rfl
  have hC : pm_cod[m_X10_findBills]? = some _ := rfl
  refine ex_many (pc' := 31) (ls' := [.ref 33, .int x1, .null, .null, .null, .null, .null]) (st' := [.int (s0 + (mem 41 2)), .int s1, .ref 44]) (mem' := mem) hS hC 5 rfl ?_
  refine ex_grd (b := pm_inb s1 256) (pc' := 32) (ls' := [.ref 33, .int x1, .null, .null, .null, .null, .null]) (st' := []) (mem' := pm_up mem 44 s1.toNatClampNeg (s0 + (mem 41 2))) hS hC rfl k.1 ?_
  replace k := k.2
  refine ex_many (pc' := 38) (ls' := [.ref 33, .int x1, .null, .null, .null, .null, .null]) (st' := [.int x1, .int x1, .ref 42]) (mem' := pm_up mem 44 s1.toNatClampNeg (s0 + (mem 41 2))) hS hC 4 rfl ?_
  have kp22 : pm_Ex ro m_X10_findBills 47 [.ref 33, .int x1, .null, .null, .null, .null, .null] [.int (if ¬ x1 = 0 then 100000000 else 0 : Int32), .int x1, .ref 42] (pm_up mem 44 s1.toNatClampNeg (s0 + (mem 41 2))) Q := by
    refine ex_grd (b := pm_inb x1 1280) (pc' := 48) (ls' := [.ref 33, .int x1, .null, .null, .null, .null, .null]) (st' := []) (mem' := pm_up (pm_up mem 44 s1.toNatClampNeg (s0 + (mem 41 2))) 42 x1.toNatClampNeg (if ¬ x1 = 0 then 100000000 else 0 : Int32)) hS hC rfl k.1 ?_
    replace k := k.2
    refine ex_many (pc' := 54) (ls' := [.ref 33, .int x1, .null, .null, .null, .null, .null]) (st' := [.int x1, .int x1, .ref 43]) (mem' := pm_up (pm_up mem 44 s1.toNatClampNeg (s0 + (mem 41 2))) 42 x1.toNatClampNeg (if ¬ x1 = 0 then 100000000 else 0 : Int32)) hS hC 4 rfl ?_
    have kp21 : pm_Ex ro m_X10_findBills 62 [.ref 33, .int x1, .null, .null, .null, .null, .null] [.int (if ¬ x1 = 0 then -1 else 0 : Int32), .int x1, .ref 43] (pm_up (pm_up mem 44 s1.toNatClampNeg (s0 + (mem 41 2))) 42 x1.toNatClampNeg (if ¬ x1 = 0 then 100000000 else 0 : Int32)) Q := by
      refine ex_grd (b := pm_inb x1 1280) (pc' := 63) (ls' := [.ref 33, .int x1, .null, .null, .null, .null, .null]) (st' := []) (mem' := pm_up (pm_up (pm_up mem 44 s1.toNatClampNeg (s0 + (mem 41 2))) 42 x1.toNatClampNeg (if ¬ x1 = 0 then 100000000 else 0 : Int32)) 43 x1.toNatClampNeg (if ¬ x1 = 0 then -1 else 0 : Int32)) hS hC rfl k.1 ?_
      replace k := k.2
      refine ex_many (pc' := 2) (ls' := [.ref 33, .int (x1 + 1), .null, .null, .null, .null, .null]) (st' := []) (mem' := pm_up (pm_up (pm_up mem 44 s1.toNatClampNeg (s0 + (mem 41 2))) 42 x1.toNatClampNeg (if ¬ x1 = 0 then 100000000 else 0 : Int32)) 43 x1.toNatClampNeg (if ¬ x1 = 0 then -1 else 0 : Int32)) hS hC 2 rfl ?_
      exact k
    refine ex_br (P := ¬ x1 = 0) (a := 61) (b := 57) (ls' := [.ref 33, .int x1, .null, .null, .null, .null, .null]) (st' := [.int x1, .ref 43]) (mem' := pm_up (pm_up mem 44 s1.toNatClampNeg (s0 + (mem 41 2))) 42 x1.toNatClampNeg (if ¬ x1 = 0 then 100000000 else 0 : Int32)) hS hC rfl (fun h => ?_) (fun h => ?_)
    · have kp21a : pm_Ex ro m_X10_findBills 62 [.ref 33, .int x1, .null, .null, .null, .null, .null] [.int (-1), .int x1, .ref 43] (pm_up (pm_up mem 44 s1.toNatClampNeg (s0 + (mem 41 2))) 42 x1.toNatClampNeg (if ¬ x1 = 0 then 100000000 else 0 : Int32)) Q := pm_phi1 (f := fun z0 => pm_Ex ro m_X10_findBills 62 [.ref 33, .int x1, .null, .null, .null, .null, .null] [.int z0, .int x1, .ref 43] (pm_up (pm_up mem 44 s1.toNatClampNeg (s0 + (mem 41 2))) 42 x1.toNatClampNeg (if ¬ x1 = 0 then 100000000 else 0 : Int32)) Q) (if_pos (h)) kp21
      refine ex_many (pc' := 62) (ls' := [.ref 33, .int x1, .null, .null, .null, .null, .null]) (st' := [.int (-1), .int x1, .ref 43]) (mem' := pm_up (pm_up mem 44 s1.toNatClampNeg (s0 + (mem 41 2))) 42 x1.toNatClampNeg (if ¬ x1 = 0 then 100000000 else 0 : Int32)) hS hC 1 rfl ?_
      exact kp21a
    · have kp21b : pm_Ex ro m_X10_findBills 62 [.ref 33, .int x1, .null, .null, .null, .null, .null] [.int 0, .int x1, .ref 43] (pm_up (pm_up mem 44 s1.toNatClampNeg (s0 + (mem 41 2))) 42 x1.toNatClampNeg (if ¬ x1 = 0 then 100000000 else 0 : Int32)) Q := pm_phi1 (f := fun z0 => pm_Ex ro m_X10_findBills 62 [.ref 33, .int x1, .null, .null, .null, .null, .null] [.int z0, .int x1, .ref 43] (pm_up (pm_up mem 44 s1.toNatClampNeg (s0 + (mem 41 2))) 42 x1.toNatClampNeg (if ¬ x1 = 0 then 100000000 else 0 : Int32)) Q) (if_neg (h)) kp21
      refine ex_many (pc' := 62) (ls' := [.ref 33, .int x1, .null, .null, .null, .null, .null]) (st' := [.int 0, .int x1, .ref 43]) (mem' := pm_up (pm_up mem 44 s1.toNatClampNeg (s0 + (mem 41 2))) 42 x1.toNatClampNeg (if ¬ x1 = 0 then 100000000 else 0 : Int32)) hS hC 2 rfl ?_
      exact kp21b
  refine ex_br (P := ¬ x1 = 0) (a := 45) (b := 41) (ls' := [.ref 33, .int x1, .null, .null, .null, .null, .null]) (st' := [.int x1, .ref 42]) (mem' := pm_up mem 44 s1.toNatClampNeg (s0 + (mem 41 2))) hS hC rfl (fun h => ?_) (fun h => ?_)
  · have kp22a : pm_Ex ro m_X10_findBills 47 [.ref 33, .int x1, .null, .null, .null, .null, .null] [.int 100000000, .int x1, .ref 42] (pm_up mem 44 s1.toNatClampNeg (s0 + (mem 41 2))) Q := pm_phi1 (f := fun z0 => pm_Ex ro m_X10_findBills 47 [.ref 33, .int x1, .null, .null, .null, .null, .null] [.int z0, .int x1, .ref 42] (pm_up mem 44 s1.toNatClampNeg (s0 + (mem 41 2))) Q) (if_pos (h)) kp22
    refine ex_many (pc' := 47) (ls' := [.ref 33, .int x1, .null, .null, .null, .null, .null]) (st' := [.int 100000000, .int x1, .ref 42]) (mem' := pm_up mem 44 s1.toNatClampNeg (s0 + (mem 41 2))) hS hC 1 rfl ?_
    exact kp22a
  · have kp22b : pm_Ex ro m_X10_findBills 47 [.ref 33, .int x1, .null, .null, .null, .null, .null] [.int 0, .int x1, .ref 42] (pm_up mem 44 s1.toNatClampNeg (s0 + (mem 41 2))) Q := pm_phi1 (f := fun z0 => pm_Ex ro m_X10_findBills 47 [.ref 33, .int x1, .null, .null, .null, .null, .null] [.int z0, .int x1, .ref 42] (pm_up mem 44 s1.toNatClampNeg (s0 + (mem 41 2))) Q) (if_neg (h)) kp22
    refine ex_many (pc' := 47) (ls' := [.ref 33, .int x1, .null, .null, .null, .null, .null]) (st' := [.int 0, .int x1, .ref 42]) (mem' := pm_up mem 44 s1.toNatClampNeg (s0 + (mem 41 2))) hS hC 2 rfl ?_
    exact kp22b

set_option maxRecDepth 20000 in
theorem bk_X10_boughtOf_0 {ro : pm_RO} {Q : Option Value → pm_M → Prop} {mem : pm_M} {a1 : Int32} (k : pm_Ex ro m_X10_findBills 0 [.ref 33, .null, .null, .null, .null, .null, .null] [] mem (fun v m => pm_Ex ro m_X10_boughtOf 4 [.ref 33, .int a1, .null, .null, .null, .null, .null, .null, .null, .null] (v.toList ++ []) m Q)) : pm_Ex ro m_X10_boughtOf 0 [.ref 33, .int a1, .null, .null, .null, .null, .null, .null, .null, .null] [] mem Q := by
  have hS : pm_sig[m_X10_boughtOf]? = some _ := rfl
  have hC : pm_cod[m_X10_boughtOf]? = some _ := rfl
  refine ex_many (pc' := 1) (ls' := [.ref 33, .int a1, .null, .null, .null, .null, .null, .null, .null, .null]) (st' := [.ref 33]) (mem' := mem) hS hC 1 rfl ?_
  refine ex_call (y' := m_X10_findBills) (rest := []) (ent := [.ref 33, .null, .null, .null, .null, .null, .null]) hS hC rfl rfl rfl rfl rfl rfl ?_
  exact k

set_option maxRecDepth 20000 in
theorem bk_X10_boughtOf_18 {ro : pm_RO} {Q : Option Value → pm_M → Prop} {mem : pm_M} {x1 x2 x3 x4 x5 x6 : Int32} (k : ((mem 41 3) < x6 → Q (some (.int (if ¬ x1 = 0 then (if ¬ x1 = 1 then (if ¬ x1 = 2 then x5 else x4 : Int32) else x3 : Int32) else x2 : Int32))) mem) ∧ (¬ ((mem 41 3) < x6) → pm_Ex ro m_X10_boughtOf 32 [.ref 33, .int x1, .int x2, .int x3, .int x4, .int x5, .int x6, .int 0, .null, .null] [] mem Q)) : pm_Ex ro m_X10_boughtOf 18 [.ref 33, .int x1, .int x2, .int x3, .int x4, .int x5, .int x6, .null, .null, .null] [] mem Q := by
  have hS : pm_sig[m_X10_boughtOf]? = some _ := rfl
  have hC : pm_cod[m_X10_boughtOf]? = some _ := rfl
  refine ex_many (pc' := 26) (ls' := [.ref 33, .int x1, .int x2, .int x3, .int x4, .int x5, .int x6, .null, .null, .null]) (st' := [.int (mem 41 3), .int x6]) (mem' := mem) hS hC 5 rfl ?_
  refine ex_br (P := (mem 41 3) < x6) (a := 161) (b := 29) (ls' := [.ref 33, .int x1, .int x2, .int x3, .int x4, .int x5, .int x6, .null, .null, .null]) (st' := []) (mem' := mem) hS hC rfl (fun h => ?_) (fun h => ?_)
  · replace k := k.1 (h)
    refine ex_many (pc' := 162) (ls' := [.ref 33, .int x1, .int x2, .int x3, .int x4, .int x5, .int x6, .null, .null, .null]) (st' := [.int x1]) (mem' := mem) hS hC 1 rfl ?_
    have kp25 : pm_Ex ro m_X10_boughtOf 190 [.ref 33, .int x1, .int x2, .int x3, .int x4, .int x5, .int x6, .null, .null, .null] [.int (if ¬ x1 = 0 then (if ¬ x1 = 1 then (if ¬ x1 = 2 then x5 else x4 : Int32) else x3 : Int32) else x2 : Int32)] mem Q := by
      exact ex_ret (v := (some (.int (if ¬ x1 = 0 then (if ¬ x1 = 1 then (if ¬ x1 = 2 then x5 else x4 : Int32) else x3 : Int32) else x2 : Int32)))) hS hC rfl rfl rfl k
    refine ex_br (P := ¬ x1 = 0) (a := 169) (b := 165) (ls' := [.ref 33, .int x1, .int x2, .int x3, .int x4, .int x5, .int x6, .null, .null, .null]) (st' := []) (mem' := mem) hS hC rfl (fun h => ?_) (fun h => ?_)
    · have kp25a : pm_Ex ro m_X10_boughtOf 190 [.ref 33, .int x1, .int x2, .int x3, .int x4, .int x5, .int x6, .null, .null, .null] [.int (if ¬ x1 = 1 then (if ¬ x1 = 2 then x5 else x4 : Int32) else x3 : Int32)] mem Q := pm_phi1 (f := fun z0 => pm_Ex ro m_X10_boughtOf 190 [.ref 33, .int x1, .int x2, .int x3, .int x4, .int x5, .int x6, .null, .null, .null] [.int z0] mem Q) (if_pos (h)) kp25
      have kp24 : pm_Ex ro m_X10_boughtOf 190 [.ref 33, .int x1, .int x2, .int x3, .int x4, .int x5, .int x6, .null, .null, .null] [.int (if ¬ x1 = 1 then (if ¬ x1 = 2 then x5 else x4 : Int32) else x3 : Int32)] mem Q := by
        exact kp25a
      refine ex_many (pc' := 171) (ls' := [.ref 33, .int x1, .int x2, .int x3, .int x4, .int x5, .int x6, .null, .null, .null]) (st' := [.int 1, .int x1]) (mem' := mem) hS hC 2 rfl ?_
      refine ex_br (P := ¬ x1 = 1) (a := 178) (b := 174) (ls' := [.ref 33, .int x1, .int x2, .int x3, .int x4, .int x5, .int x6, .null, .null, .null]) (st' := []) (mem' := mem) hS hC rfl (fun h => ?_) (fun h => ?_)
      · have kp24a : pm_Ex ro m_X10_boughtOf 190 [.ref 33, .int x1, .int x2, .int x3, .int x4, .int x5, .int x6, .null, .null, .null] [.int (if ¬ x1 = 2 then x5 else x4 : Int32)] mem Q := pm_phi1 (f := fun z0 => pm_Ex ro m_X10_boughtOf 190 [.ref 33, .int x1, .int x2, .int x3, .int x4, .int x5, .int x6, .null, .null, .null] [.int z0] mem Q) (if_pos (h)) kp24
        have kp23 : pm_Ex ro m_X10_boughtOf 190 [.ref 33, .int x1, .int x2, .int x3, .int x4, .int x5, .int x6, .null, .null, .null] [.int (if ¬ x1 = 2 then x5 else x4 : Int32)] mem Q := by
          exact kp24a
        refine ex_many (pc' := 180) (ls' := [.ref 33, .int x1, .int x2, .int x3, .int x4, .int x5, .int x6, .null, .null, .null]) (st' := [.int 2, .int x1]) (mem' := mem) hS hC 2 rfl ?_
        refine ex_br (P := ¬ x1 = 2) (a := 188) (b := 183) (ls' := [.ref 33, .int x1, .int x2, .int x3, .int x4, .int x5, .int x6, .null, .null, .null]) (st' := []) (mem' := mem) hS hC rfl (fun h => ?_) (fun h => ?_)
        · have kp23a : pm_Ex ro m_X10_boughtOf 190 [.ref 33, .int x1, .int x2, .int x3, .int x4, .int x5, .int x6, .null, .null, .null] [.int x5] mem Q := pm_phi1 (f := fun z0 => pm_Ex ro m_X10_boughtOf 190 [.ref 33, .int x1, .int x2, .int x3, .int x4, .int x5, .int x6, .null, .null, .null] [.int z0] mem Q) (if_pos (h)) kp23
          refine ex_many (pc' := 190) (ls' := [.ref 33, .int x1, .int x2, .int x3, .int x4, .int x5, .int x6, .null, .null, .null]) (st' := [.int x5]) (mem' := mem) hS hC 1 rfl ?_
          exact kp23a
        · have kp23b : pm_Ex ro m_X10_boughtOf 190 [.ref 33, .int x1, .int x2, .int x3, .int x4, .int x5, .int x6, .null, .null, .null] [.int x4] mem Q := pm_phi1 (f := fun z0 => pm_Ex ro m_X10_boughtOf 190 [.ref 33, .int x1, .int x2, .int x3, .int x4, .int x5, .int x6, .null, .null, .null] [.int z0] mem Q) (if_neg (h)) kp23
          refine ex_many (pc' := 190) (ls' := [.ref 33, .int x1, .int x2, .int x3, .int x4, .int x5, .int x6, .null, .null, .null]) (st' := [.int x4]) (mem' := mem) hS hC 2 rfl ?_
          exact kp23b
      · have kp24b : pm_Ex ro m_X10_boughtOf 190 [.ref 33, .int x1, .int x2, .int x3, .int x4, .int x5, .int x6, .null, .null, .null] [.int x3] mem Q := pm_phi1 (f := fun z0 => pm_Ex ro m_X10_boughtOf 190 [.ref 33, .int x1, .int x2, .int x3, .int x4, .int x5, .int x6, .null, .null, .null] [.int z0] mem Q) (if_neg (h)) kp24
        refine ex_many (pc' := 190) (ls' := [.ref 33, .int x1, .int x2, .int x3, .int x4, .int x5, .int x6, .null, .null, .null]) (st' := [.int x3]) (mem' := mem) hS hC 2 rfl ?_
        exact kp24b
    · have kp25b : pm_Ex ro m_X10_boughtOf 190 [.ref 33, .int x1, .int x2, .int x3, .int x4, .int x5, .int x6, .null, .null, .null] [.int x2] mem Q := pm_phi1 (f := fun z0 => pm_Ex ro m_X10_boughtOf 190 [.ref 33, .int x1, .int x2, .int x3, .int x4, .int x5, .int x6, .null, .null, .null] [.int z0] mem Q) (if_neg (h)) kp25
      refine ex_many (pc' := 190) (ls' := [.ref 33, .int x1, .int x2, .int x3, .int x4, .int x5, .int x6, .null, .null, .null]) (st' := [.int x2]) (mem' := mem) hS hC 2 rfl ?_
      exact kp25b
  · replace k := k.2 (h)
    refine ex_many (pc' := 32) (ls' := [.ref 33, .int x1, .int x2, .int x3, .int x4, .int x5, .int x6, .int 0, .null, .null]) (st' := []) (mem' := mem) hS hC 2 rfl ?_
    exact k

set_option maxRecDepth 20000 in
theorem bk_X10_boughtOf_32 {ro : pm_RO} {Q : Option Value → pm_M → Prop} {mem : pm_M} {x1 x2 x3 x4 x5 x6 x7 : Int32} (k : ((((1 : Int32) <<< ((mem 33 8) &&& 31)) - 1) < x7 → pm_Ex ro m_X10_boughtOf 18 [.ref 33, .int x1, .int x2, .int x3, .int x4, .int x5, .int (x6 + 1), .int x7, .null, .null] [] mem Q) ∧ (¬ ((((1 : Int32) <<< ((mem 33 8) &&& 31)) - 1) < x7) → (pm_inb ((256 * x6) + x7) 1280 = true) ∧ ((¬ (¬ ((mem 33 10) &&& (x7 ^^^ (-1))) = 0) ∧ (¬ (100000000 ≤ (mem 42 (((256 * x6) + x7).toNatClampNeg)))) → (pm_inb ((256 * x6) + x7) 1280 = true) ∧ (((mem 43 (((256 * x6) + x7).toNatClampNeg)) ≤ x5 → pm_Ex ro m_X10_boughtOf 32 [.ref 33, .int x1, .int (if ¬ (¬ ((mem 33 10) &&& (x7 ^^^ (-1))) = 0) ∧ (¬ (100000000 ≤ (mem 42 (((256 * x6) + x7).toNatClampNeg)))) then (if x2 ≤ (mem 42 (((256 * x6) + x7).toNatClampNeg)) then x2 else mem 42 (((256 * x6) + x7).toNatClampNeg) : Int32) else x2 : Int32), .int (if ¬ (¬ ((mem 33 10) &&& (x7 ^^^ (-1))) = 0) ∧ (¬ (100000000 ≤ (mem 42 (((256 * x6) + x7).toNatClampNeg)))) then (if x2 ≤ (mem 42 (((256 * x6) + x7).toNatClampNeg)) then x3 else x6 : Int32) else x3 : Int32), .int (if ¬ (¬ ((mem 33 10) &&& (x7 ^^^ (-1))) = 0) ∧ (¬ (100000000 ≤ (mem 42 (((256 * x6) + x7).toNatClampNeg)))) then (if x2 ≤ (mem 42 (((256 * x6) + x7).toNatClampNeg)) then x4 else x7 : Int32) else x4 : Int32), .int x5, .int x6, .int (x7 + 1), .int (mem 42 (((256 * x6) + x7).toNatClampNeg)), .int (zb (¬ (¬ ((mem 33 10) &&& (x7 ^^^ (-1))) = 0) ∧ (¬ (100000000 ≤ (mem 42 (((256 * x6) + x7).toNatClampNeg))))))] [] mem Q) ∧ (¬ ((mem 43 (((256 * x6) + x7).toNatClampNeg)) ≤ x5) → (pm_inb ((256 * x6) + x7) 1280 = true) ∧ (pm_Ex ro m_X10_boughtOf 32 [.ref 33, .int x1, .int (if ¬ (¬ ((mem 33 10) &&& (x7 ^^^ (-1))) = 0) ∧ (¬ (100000000 ≤ (mem 42 (((256 * x6) + x7).toNatClampNeg)))) then (if x2 ≤ (mem 42 (((256 * x6) + x7).toNatClampNeg)) then x2 else mem 42 (((256 * x6) + x7).toNatClampNeg) : Int32) else x2 : Int32), .int (if ¬ (¬ ((mem 33 10) &&& (x7 ^^^ (-1))) = 0) ∧ (¬ (100000000 ≤ (mem 42 (((256 * x6) + x7).toNatClampNeg)))) then (if x2 ≤ (mem 42 (((256 * x6) + x7).toNatClampNeg)) then x3 else x6 : Int32) else x3 : Int32), .int (if ¬ (¬ ((mem 33 10) &&& (x7 ^^^ (-1))) = 0) ∧ (¬ (100000000 ≤ (mem 42 (((256 * x6) + x7).toNatClampNeg)))) then (if x2 ≤ (mem 42 (((256 * x6) + x7).toNatClampNeg)) then x4 else x7 : Int32) else x4 : Int32), .int (mem 43 (((256 * x6) + x7).toNatClampNeg)), .int x6, .int (x7 + 1), .int (mem 42 (((256 * x6) + x7).toNatClampNeg)), .int (zb (¬ (¬ ((mem 33 10) &&& (x7 ^^^ (-1))) = 0) ∧ (¬ (100000000 ≤ (mem 42 (((256 * x6) + x7).toNatClampNeg))))))] [] mem Q)))) ∧ (¬ (¬ (¬ ((mem 33 10) &&& (x7 ^^^ (-1))) = 0) ∧ (¬ (100000000 ≤ (mem 42 (((256 * x6) + x7).toNatClampNeg))))) → pm_Ex ro m_X10_boughtOf 32 [.ref 33, .int x1, .int (if ¬ (¬ ((mem 33 10) &&& (x7 ^^^ (-1))) = 0) ∧ (¬ (100000000 ≤ (mem 42 (((256 * x6) + x7).toNatClampNeg)))) then (if x2 ≤ (mem 42 (((256 * x6) + x7).toNatClampNeg)) then x2 else mem 42 (((256 * x6) + x7).toNatClampNeg) : Int32) else x2 : Int32), .int (if ¬ (¬ ((mem 33 10) &&& (x7 ^^^ (-1))) = 0) ∧ (¬ (100000000 ≤ (mem 42 (((256 * x6) + x7).toNatClampNeg)))) then (if x2 ≤ (mem 42 (((256 * x6) + x7).toNatClampNeg)) then x3 else x6 : Int32) else x3 : Int32), .int (if ¬ (¬ ((mem 33 10) &&& (x7 ^^^ (-1))) = 0) ∧ (¬ (100000000 ≤ (mem 42 (((256 * x6) + x7).toNatClampNeg)))) then (if x2 ≤ (mem 42 (((256 * x6) + x7).toNatClampNeg)) then x4 else x7 : Int32) else x4 : Int32), .int x5, .int x6, .int (x7 + 1), .int (mem 42 (((256 * x6) + x7).toNatClampNeg)), .int (zb (¬ (¬ ((mem 33 10) &&& (x7 ^^^ (-1))) = 0) ∧ (¬ (100000000 ≤ (mem 42 (((256 * x6) + x7).toNatClampNeg))))))] [] mem Q)))) : pm_Ex ro m_X10_boughtOf 32 [.ref 33, .int x1, .int x2, .int x3, .int x4, .int x5, .int x6, .int x7, .null, .null] [] mem Q := by
  have hS : pm_sig[m_X10_boughtOf]? = some _ := rfl
  have hC : pm_cod[m_X10_boughtOf]? = some _ := rfl
  refine ex_many (pc' := 35) (ls' := [.ref 33, .int x1, .int x2, .int x3, .int x4, .int x5, .int x6, .int x7, .null, .null]) (st' := [.ref 33, .int x7]) (mem' := mem) hS hC 2 rfl ?_
  refine ex_call (y' := m_X10_whole) (rest := [.int x7]) (ent := [.ref 33]) hS hC rfl rfl rfl rfl rfl rfl ?_
  refine bk_X10_whole_0 ?_
  show pm_Ex ro m_X10_boughtOf 38 [.ref 33, .int x1, .int x2, .int x3, .int x4, .int x5, .int x6, .int x7, .null, .null] [.int (((1 : Int32) <<< ((mem 33 8) &&& 31)) - 1), .int x7] mem Q
  refine ex_br (P := (((1 : Int32) <<< ((mem 33 8) &&& 31)) - 1) < x7) (a := 155) (b := 41) (ls' := [.ref 33, .int x1, .int x2, .int x3, .int x4, .int x5, .int x6, .int x7, .null, .null]) (st' := []) (mem' := mem) hS hC rfl (fun h => ?_) (fun h => ?_)
  · replace k := k.1 (h)
    refine ex_many (pc' := 18) (ls' := [.ref 33, .int x1, .int x2, .int x3, .int x4, .int x5, .int (x6 + 1), .int x7, .null, .null]) (st' := []) (mem' := mem) hS hC 2 rfl ?_
    exact k
  · replace k := k.2 (h)
    refine ex_many (pc' := 54) (ls' := [.ref 33, .int x1, .int x2, .int x3, .int x4, .int x5, .int x6, .int x7, .null, .null]) (st' := [.int ((256 * x6) + x7), .ref 42]) (mem' := mem) hS hC 7 rfl ?_
    refine ex_grd (b := pm_inb ((256 * x6) + x7) 1280) (pc' := 55) (ls' := [.ref 33, .int x1, .int x2, .int x3, .int x4, .int x5, .int x6, .int x7, .null, .null]) (st' := [.int (mem 42 (((256 * x6) + x7).toNatClampNeg))]) (mem' := mem) hS hC rfl k.1 ?_
    replace k := k.2
    refine ex_many (pc' := 66) (ls' := [.ref 33, .int x1, .int x2, .int x3, .int x4, .int x5, .int x6, .int x7, .int (mem 42 (((256 * x6) + x7).toNatClampNeg)), .null]) (st' := [.int ((mem 33 10) &&& (x7 ^^^ (-1)))]) (mem' := mem) hS hC 7 rfl ?_
    have kp29 : pm_Ex ro m_X10_boughtOf 81 [.ref 33, .int x1, .int x2, .int x3, .int x4, .int x5, .int x6, .int x7, .int (mem 42 (((256 * x6) + x7).toNatClampNeg)), .null] [.int (zb (¬ (¬ ((mem 33 10) &&& (x7 ^^^ (-1))) = 0) ∧ (¬ (100000000 ≤ (mem 42 (((256 * x6) + x7).toNatClampNeg))))))] mem Q := by
      refine ex_many (pc' := 85) (ls' := [.ref 33, .int x1, .int x2, .int x3, .int x4, .int x5, .int x6, .int x7, .int (mem 42 (((256 * x6) + x7).toNatClampNeg)), .int (zb (¬ (¬ ((mem 33 10) &&& (x7 ^^^ (-1))) = 0) ∧ (¬ (100000000 ≤ (mem 42 (((256 * x6) + x7).toNatClampNeg))))))]) (st' := [.int (zb (¬ (¬ ((mem 33 10) &&& (x7 ^^^ (-1))) = 0) ∧ (¬ (100000000 ≤ (mem 42 (((256 * x6) + x7).toNatClampNeg))))))]) (mem' := mem) hS hC 2 rfl ?_
      have kp28 : pm_Ex ro m_X10_boughtOf 104 [.ref 33, .int x1, .int (if ¬ (¬ ((mem 33 10) &&& (x7 ^^^ (-1))) = 0) ∧ (¬ (100000000 ≤ (mem 42 (((256 * x6) + x7).toNatClampNeg)))) then (if x2 ≤ (mem 42 (((256 * x6) + x7).toNatClampNeg)) then x2 else mem 42 (((256 * x6) + x7).toNatClampNeg) : Int32) else x2 : Int32), .int (if ¬ (¬ ((mem 33 10) &&& (x7 ^^^ (-1))) = 0) ∧ (¬ (100000000 ≤ (mem 42 (((256 * x6) + x7).toNatClampNeg)))) then (if x2 ≤ (mem 42 (((256 * x6) + x7).toNatClampNeg)) then x3 else x6 : Int32) else x3 : Int32), .int (if ¬ (¬ ((mem 33 10) &&& (x7 ^^^ (-1))) = 0) ∧ (¬ (100000000 ≤ (mem 42 (((256 * x6) + x7).toNatClampNeg)))) then (if x2 ≤ (mem 42 (((256 * x6) + x7).toNatClampNeg)) then x4 else x7 : Int32) else x4 : Int32), .int x5, .int x6, .int x7, .int (mem 42 (((256 * x6) + x7).toNatClampNeg)), .int (zb (¬ (¬ ((mem 33 10) &&& (x7 ^^^ (-1))) = 0) ∧ (¬ (100000000 ≤ (mem 42 (((256 * x6) + x7).toNatClampNeg))))))] [] mem Q := by
        refine ex_many (pc' := 106) (ls' := [.ref 33, .int x1, .int (if ¬ (¬ ((mem 33 10) &&& (x7 ^^^ (-1))) = 0) ∧ (¬ (100000000 ≤ (mem 42 (((256 * x6) + x7).toNatClampNeg)))) then (if x2 ≤ (mem 42 (((256 * x6) + x7).toNatClampNeg)) then x2 else mem 42 (((256 * x6) + x7).toNatClampNeg) : Int32) else x2 : Int32), .int (if ¬ (¬ ((mem 33 10) &&& (x7 ^^^ (-1))) = 0) ∧ (¬ (100000000 ≤ (mem 42 (((256 * x6) + x7).toNatClampNeg)))) then (if x2 ≤ (mem 42 (((256 * x6) + x7).toNatClampNeg)) then x3 else x6 : Int32) else x3 : Int32), .int (if ¬ (¬ ((mem 33 10) &&& (x7 ^^^ (-1))) = 0) ∧ (¬ (100000000 ≤ (mem 42 (((256 * x6) + x7).toNatClampNeg)))) then (if x2 ≤ (mem 42 (((256 * x6) + x7).toNatClampNeg)) then x4 else x7 : Int32) else x4 : Int32), .int x5, .int x6, .int x7, .int (mem 42 (((256 * x6) + x7).toNatClampNeg)), .int (zb (¬ (¬ ((mem 33 10) &&& (x7 ^^^ (-1))) = 0) ∧ (¬ (100000000 ≤ (mem 42 (((256 * x6) + x7).toNatClampNeg))))))]) (st' := [.int (zb (¬ (¬ ((mem 33 10) &&& (x7 ^^^ (-1))) = 0) ∧ (¬ (100000000 ≤ (mem 42 (((256 * x6) + x7).toNatClampNeg))))))]) (mem' := mem) hS hC 1 rfl ?_
        refine ex_br (P := (zb (¬ (¬ ((mem 33 10) &&& (x7 ^^^ (-1))) = 0) ∧ (¬ (100000000 ≤ (mem 42 (((256 * x6) + x7).toNatClampNeg)))))) = 0) (a := 145) (b := 109) (ls' := [.ref 33, .int x1, .int (if ¬ (¬ ((mem 33 10) &&& (x7 ^^^ (-1))) = 0) ∧ (¬ (100000000 ≤ (mem 42 (((256 * x6) + x7).toNatClampNeg)))) then (if x2 ≤ (mem 42 (((256 * x6) + x7).toNatClampNeg)) then x2 else mem 42 (((256 * x6) + x7).toNatClampNeg) : Int32) else x2 : Int32), .int (if ¬ (¬ ((mem 33 10) &&& (x7 ^^^ (-1))) = 0) ∧ (¬ (100000000 ≤ (mem 42 (((256 * x6) + x7).toNatClampNeg)))) then (if x2 ≤ (mem 42 (((256 * x6) + x7).toNatClampNeg)) then x3 else x6 : Int32) else x3 : Int32), .int (if ¬ (¬ ((mem 33 10) &&& (x7 ^^^ (-1))) = 0) ∧ (¬ (100000000 ≤ (mem 42 (((256 * x6) + x7).toNatClampNeg)))) then (if x2 ≤ (mem 42 (((256 * x6) + x7).toNatClampNeg)) then x4 else x7 : Int32) else x4 : Int32), .int x5, .int x6, .int x7, .int (mem 42 (((256 * x6) + x7).toNatClampNeg)), .int (zb (¬ (¬ ((mem 33 10) &&& (x7 ^^^ (-1))) = 0) ∧ (¬ (100000000 ≤ (mem 42 (((256 * x6) + x7).toNatClampNeg))))))]) (st' := []) (mem' := mem) hS hC rfl (fun h => ?_) (fun h => ?_)
        · replace k := k.2 (zb0 h)
          refine ex_many (pc' := 32) (ls' := [.ref 33, .int x1, .int (if ¬ (¬ ((mem 33 10) &&& (x7 ^^^ (-1))) = 0) ∧ (¬ (100000000 ≤ (mem 42 (((256 * x6) + x7).toNatClampNeg)))) then (if x2 ≤ (mem 42 (((256 * x6) + x7).toNatClampNeg)) then x2 else mem 42 (((256 * x6) + x7).toNatClampNeg) : Int32) else x2 : Int32), .int (if ¬ (¬ ((mem 33 10) &&& (x7 ^^^ (-1))) = 0) ∧ (¬ (100000000 ≤ (mem 42 (((256 * x6) + x7).toNatClampNeg)))) then (if x2 ≤ (mem 42 (((256 * x6) + x7).toNatClampNeg)) then x3 else x6 : Int32) else x3 : Int32), .int (if ¬ (¬ ((mem 33 10) &&& (x7 ^^^ (-1))) = 0) ∧ (¬ (100000000 ≤ (mem 42 (((256 * x6) + x7).toNatClampNeg)))) then (if x2 ≤ (mem 42 (((256 * x6) + x7).toNatClampNeg)) then x4 else x7 : Int32) else x4 : Int32), .int x5, .int x6, .int (x7 + 1), .int (mem 42 (((256 * x6) + x7).toNatClampNeg)), .int (zb (¬ (¬ ((mem 33 10) &&& (x7 ^^^ (-1))) = 0) ∧ (¬ (100000000 ≤ (mem 42 (((256 * x6) + x7).toNatClampNeg))))))]) (st' := []) (mem' := mem) hS hC 4 rfl ?_
          exact k
        · replace k := k.1 (zb1 h)
          refine ex_many (pc' := 122) (ls' := [.ref 33, .int x1, .int (if ¬ (¬ ((mem 33 10) &&& (x7 ^^^ (-1))) = 0) ∧ (¬ (100000000 ≤ (mem 42 (((256 * x6) + x7).toNatClampNeg)))) then (if x2 ≤ (mem 42 (((256 * x6) + x7).toNatClampNeg)) then x2 else mem 42 (((256 * x6) + x7).toNatClampNeg) : Int32) else x2 : Int32), .int (if ¬ (¬ ((mem 33 10) &&& (x7 ^^^ (-1))) = 0) ∧ (¬ (100000000 ≤ (mem 42 (((256 * x6) + x7).toNatClampNeg)))) then (if x2 ≤ (mem 42 (((256 * x6) + x7).toNatClampNeg)) then x3 else x6 : Int32) else x3 : Int32), .int (if ¬ (¬ ((mem 33 10) &&& (x7 ^^^ (-1))) = 0) ∧ (¬ (100000000 ≤ (mem 42 (((256 * x6) + x7).toNatClampNeg)))) then (if x2 ≤ (mem 42 (((256 * x6) + x7).toNatClampNeg)) then x4 else x7 : Int32) else x4 : Int32), .int x5, .int x6, .int x7, .int (mem 42 (((256 * x6) + x7).toNatClampNeg)), .int (zb (¬ (¬ ((mem 33 10) &&& (x7 ^^^ (-1))) = 0) ∧ (¬ (100000000 ≤ (mem 42 (((256 * x6) + x7).toNatClampNeg))))))]) (st' := [.int ((256 * x6) + x7), .ref 43]) (mem' := mem) hS hC 7 rfl ?_
          refine ex_grd (b := pm_inb ((256 * x6) + x7) 1280) (pc' := 123) (ls' := [.ref 33, .int x1, .int (if ¬ (¬ ((mem 33 10) &&& (x7 ^^^ (-1))) = 0) ∧ (¬ (100000000 ≤ (mem 42 (((256 * x6) + x7).toNatClampNeg)))) then (if x2 ≤ (mem 42 (((256 * x6) + x7).toNatClampNeg)) then x2 else mem 42 (((256 * x6) + x7).toNatClampNeg) : Int32) else x2 : Int32), .int (if ¬ (¬ ((mem 33 10) &&& (x7 ^^^ (-1))) = 0) ∧ (¬ (100000000 ≤ (mem 42 (((256 * x6) + x7).toNatClampNeg)))) then (if x2 ≤ (mem 42 (((256 * x6) + x7).toNatClampNeg)) then x3 else x6 : Int32) else x3 : Int32), .int (if ¬ (¬ ((mem 33 10) &&& (x7 ^^^ (-1))) = 0) ∧ (¬ (100000000 ≤ (mem 42 (((256 * x6) + x7).toNatClampNeg)))) then (if x2 ≤ (mem 42 (((256 * x6) + x7).toNatClampNeg)) then x4 else x7 : Int32) else x4 : Int32), .int x5, .int x6, .int x7, .int (mem 42 (((256 * x6) + x7).toNatClampNeg)), .int (zb (¬ (¬ ((mem 33 10) &&& (x7 ^^^ (-1))) = 0) ∧ (¬ (100000000 ≤ (mem 42 (((256 * x6) + x7).toNatClampNeg))))))]) (st' := [.int (mem 43 (((256 * x6) + x7).toNatClampNeg))]) (mem' := mem) hS hC rfl k.1 ?_
          replace k := k.2
          refine ex_many (pc' := 125) (ls' := [.ref 33, .int x1, .int (if ¬ (¬ ((mem 33 10) &&& (x7 ^^^ (-1))) = 0) ∧ (¬ (100000000 ≤ (mem 42 (((256 * x6) + x7).toNatClampNeg)))) then (if x2 ≤ (mem 42 (((256 * x6) + x7).toNatClampNeg)) then x2 else mem 42 (((256 * x6) + x7).toNatClampNeg) : Int32) else x2 : Int32), .int (if ¬ (¬ ((mem 33 10) &&& (x7 ^^^ (-1))) = 0) ∧ (¬ (100000000 ≤ (mem 42 (((256 * x6) + x7).toNatClampNeg)))) then (if x2 ≤ (mem 42 (((256 * x6) + x7).toNatClampNeg)) then x3 else x6 : Int32) else x3 : Int32), .int (if ¬ (¬ ((mem 33 10) &&& (x7 ^^^ (-1))) = 0) ∧ (¬ (100000000 ≤ (mem 42 (((256 * x6) + x7).toNatClampNeg)))) then (if x2 ≤ (mem 42 (((256 * x6) + x7).toNatClampNeg)) then x4 else x7 : Int32) else x4 : Int32), .int x5, .int x6, .int x7, .int (mem 42 (((256 * x6) + x7).toNatClampNeg)), .int (zb (¬ (¬ ((mem 33 10) &&& (x7 ^^^ (-1))) = 0) ∧ (¬ (100000000 ≤ (mem 42 (((256 * x6) + x7).toNatClampNeg))))))]) (st' := [.int x5, .int (mem 43 (((256 * x6) + x7).toNatClampNeg))]) (mem' := mem) hS hC 1 rfl ?_
          refine ex_br (P := (mem 43 (((256 * x6) + x7).toNatClampNeg)) ≤ x5) (a := 145) (b := 128) (ls' := [.ref 33, .int x1, .int (if ¬ (¬ ((mem 33 10) &&& (x7 ^^^ (-1))) = 0) ∧ (¬ (100000000 ≤ (mem 42 (((256 * x6) + x7).toNatClampNeg)))) then (if x2 ≤ (mem 42 (((256 * x6) + x7).toNatClampNeg)) then x2 else mem 42 (((256 * x6) + x7).toNatClampNeg) : Int32) else x2 : Int32), .int (if ¬ (¬ ((mem 33 10) &&& (x7 ^^^ (-1))) = 0) ∧ (¬ (100000000 ≤ (mem 42 (((256 * x6) + x7).toNatClampNeg)))) then (if x2 ≤ (mem 42 (((256 * x6) + x7).toNatClampNeg)) then x3 else x6 : Int32) else x3 : Int32), .int (if ¬ (¬ ((mem 33 10) &&& (x7 ^^^ (-1))) = 0) ∧ (¬ (100000000 ≤ (mem 42 (((256 * x6) + x7).toNatClampNeg)))) then (if x2 ≤ (mem 42 (((256 * x6) + x7).toNatClampNeg)) then x4 else x7 : Int32) else x4 : Int32), .int x5, .int x6, .int x7, .int (mem 42 (((256 * x6) + x7).toNatClampNeg)), .int (zb (¬ (¬ ((mem 33 10) &&& (x7 ^^^ (-1))) = 0) ∧ (¬ (100000000 ≤ (mem 42 (((256 * x6) + x7).toNatClampNeg))))))]) (st' := []) (mem' := mem) hS hC rfl (fun h => ?_) (fun h => ?_)
          · replace k := k.1 (h)
            refine ex_many (pc' := 32) (ls' := [.ref 33, .int x1, .int (if ¬ (¬ ((mem 33 10) &&& (x7 ^^^ (-1))) = 0) ∧ (¬ (100000000 ≤ (mem 42 (((256 * x6) + x7).toNatClampNeg)))) then (if x2 ≤ (mem 42 (((256 * x6) + x7).toNatClampNeg)) then x2 else mem 42 (((256 * x6) + x7).toNatClampNeg) : Int32) else x2 : Int32), .int (if ¬ (¬ ((mem 33 10) &&& (x7 ^^^ (-1))) = 0) ∧ (¬ (100000000 ≤ (mem 42 (((256 * x6) + x7).toNatClampNeg)))) then (if x2 ≤ (mem 42 (((256 * x6) + x7).toNatClampNeg)) then x3 else x6 : Int32) else x3 : Int32), .int (if ¬ (¬ ((mem 33 10) &&& (x7 ^^^ (-1))) = 0) ∧ (¬ (100000000 ≤ (mem 42 (((256 * x6) + x7).toNatClampNeg)))) then (if x2 ≤ (mem 42 (((256 * x6) + x7).toNatClampNeg)) then x4 else x7 : Int32) else x4 : Int32), .int x5, .int x6, .int (x7 + 1), .int (mem 42 (((256 * x6) + x7).toNatClampNeg)), .int (zb (¬ (¬ ((mem 33 10) &&& (x7 ^^^ (-1))) = 0) ∧ (¬ (100000000 ≤ (mem 42 (((256 * x6) + x7).toNatClampNeg))))))]) (st' := []) (mem' := mem) hS hC 4 rfl ?_
            exact k
          · replace k := k.2 (h)
            refine ex_many (pc' := 141) (ls' := [.ref 33, .int x1, .int (if ¬ (¬ ((mem 33 10) &&& (x7 ^^^ (-1))) = 0) ∧ (¬ (100000000 ≤ (mem 42 (((256 * x6) + x7).toNatClampNeg)))) then (if x2 ≤ (mem 42 (((256 * x6) + x7).toNatClampNeg)) then x2 else mem 42 (((256 * x6) + x7).toNatClampNeg) : Int32) else x2 : Int32), .int (if ¬ (¬ ((mem 33 10) &&& (x7 ^^^ (-1))) = 0) ∧ (¬ (100000000 ≤ (mem 42 (((256 * x6) + x7).toNatClampNeg)))) then (if x2 ≤ (mem 42 (((256 * x6) + x7).toNatClampNeg)) then x3 else x6 : Int32) else x3 : Int32), .int (if ¬ (¬ ((mem 33 10) &&& (x7 ^^^ (-1))) = 0) ∧ (¬ (100000000 ≤ (mem 42 (((256 * x6) + x7).toNatClampNeg)))) then (if x2 ≤ (mem 42 (((256 * x6) + x7).toNatClampNeg)) then x4 else x7 : Int32) else x4 : Int32), .int x5, .int x6, .int x7, .int (mem 42 (((256 * x6) + x7).toNatClampNeg)), .int (zb (¬ (¬ ((mem 33 10) &&& (x7 ^^^ (-1))) = 0) ∧ (¬ (100000000 ≤ (mem 42 (((256 * x6) + x7).toNatClampNeg))))))]) (st' := [.int ((256 * x6) + x7), .ref 43]) (mem' := mem) hS hC 7 rfl ?_
            refine ex_grd (b := pm_inb ((256 * x6) + x7) 1280) (pc' := 142) (ls' := [.ref 33, .int x1, .int (if ¬ (¬ ((mem 33 10) &&& (x7 ^^^ (-1))) = 0) ∧ (¬ (100000000 ≤ (mem 42 (((256 * x6) + x7).toNatClampNeg)))) then (if x2 ≤ (mem 42 (((256 * x6) + x7).toNatClampNeg)) then x2 else mem 42 (((256 * x6) + x7).toNatClampNeg) : Int32) else x2 : Int32), .int (if ¬ (¬ ((mem 33 10) &&& (x7 ^^^ (-1))) = 0) ∧ (¬ (100000000 ≤ (mem 42 (((256 * x6) + x7).toNatClampNeg)))) then (if x2 ≤ (mem 42 (((256 * x6) + x7).toNatClampNeg)) then x3 else x6 : Int32) else x3 : Int32), .int (if ¬ (¬ ((mem 33 10) &&& (x7 ^^^ (-1))) = 0) ∧ (¬ (100000000 ≤ (mem 42 (((256 * x6) + x7).toNatClampNeg)))) then (if x2 ≤ (mem 42 (((256 * x6) + x7).toNatClampNeg)) then x4 else x7 : Int32) else x4 : Int32), .int x5, .int x6, .int x7, .int (mem 42 (((256 * x6) + x7).toNatClampNeg)), .int (zb (¬ (¬ ((mem 33 10) &&& (x7 ^^^ (-1))) = 0) ∧ (¬ (100000000 ≤ (mem 42 (((256 * x6) + x7).toNatClampNeg))))))]) (st' := [.int (mem 43 (((256 * x6) + x7).toNatClampNeg))]) (mem' := mem) hS hC rfl k.1 ?_
            replace k := k.2
            refine ex_many (pc' := 32) (ls' := [.ref 33, .int x1, .int (if ¬ (¬ ((mem 33 10) &&& (x7 ^^^ (-1))) = 0) ∧ (¬ (100000000 ≤ (mem 42 (((256 * x6) + x7).toNatClampNeg)))) then (if x2 ≤ (mem 42 (((256 * x6) + x7).toNatClampNeg)) then x2 else mem 42 (((256 * x6) + x7).toNatClampNeg) : Int32) else x2 : Int32), .int (if ¬ (¬ ((mem 33 10) &&& (x7 ^^^ (-1))) = 0) ∧ (¬ (100000000 ≤ (mem 42 (((256 * x6) + x7).toNatClampNeg)))) then (if x2 ≤ (mem 42 (((256 * x6) + x7).toNatClampNeg)) then x3 else x6 : Int32) else x3 : Int32), .int (if ¬ (¬ ((mem 33 10) &&& (x7 ^^^ (-1))) = 0) ∧ (¬ (100000000 ≤ (mem 42 (((256 * x6) + x7).toNatClampNeg)))) then (if x2 ≤ (mem 42 (((256 * x6) + x7).toNatClampNeg)) then x4 else x7 : Int32) else x4 : Int32), .int (mem 43 (((256 * x6) + x7).toNatClampNeg)), .int x6, .int (x7 + 1), .int (mem 42 (((256 * x6) + x7).toNatClampNeg)), .int (zb (¬ (¬ ((mem 33 10) &&& (x7 ^^^ (-1))) = 0) ∧ (¬ (100000000 ≤ (mem 42 (((256 * x6) + x7).toNatClampNeg))))))]) (st' := []) (mem' := mem) hS hC 4 rfl ?_
            exact k
      refine ex_br (P := (zb (¬ (¬ ((mem 33 10) &&& (x7 ^^^ (-1))) = 0) ∧ (¬ (100000000 ≤ (mem 42 (((256 * x6) + x7).toNatClampNeg)))))) = 0) (a := 104) (b := 88) (ls' := [.ref 33, .int x1, .int x2, .int x3, .int x4, .int x5, .int x6, .int x7, .int (mem 42 (((256 * x6) + x7).toNatClampNeg)), .int (zb (¬ (¬ ((mem 33 10) &&& (x7 ^^^ (-1))) = 0) ∧ (¬ (100000000 ≤ (mem 42 (((256 * x6) + x7).toNatClampNeg))))))]) (st' := []) (mem' := mem) hS hC rfl (fun h => ?_) (fun h => ?_)
      · have kp28a : pm_Ex ro m_X10_boughtOf 104 [.ref 33, .int x1, .int x2, .int x3, .int x4, .int x5, .int x6, .int x7, .int (mem 42 (((256 * x6) + x7).toNatClampNeg)), .int (zb (¬ (¬ ((mem 33 10) &&& (x7 ^^^ (-1))) = 0) ∧ (¬ (100000000 ≤ (mem 42 (((256 * x6) + x7).toNatClampNeg))))))] [] mem Q := pm_phi3 (f := fun z0 z1 z2 => pm_Ex ro m_X10_boughtOf 104 [.ref 33, .int x1, .int z0, .int z1, .int z2, .int x5, .int x6, .int x7, .int (mem 42 (((256 * x6) + x7).toNatClampNeg)), .int (zb (¬ (¬ ((mem 33 10) &&& (x7 ^^^ (-1))) = 0) ∧ (¬ (100000000 ≤ (mem 42 (((256 * x6) + x7).toNatClampNeg))))))] [] mem Q) (if_neg (zb0 h)) (if_neg (zb0 h)) (if_neg (zb0 h)) kp28
        exact kp28a
      · have kp28b : pm_Ex ro m_X10_boughtOf 104 [.ref 33, .int x1, .int (if x2 ≤ (mem 42 (((256 * x6) + x7).toNatClampNeg)) then x2 else mem 42 (((256 * x6) + x7).toNatClampNeg) : Int32), .int (if x2 ≤ (mem 42 (((256 * x6) + x7).toNatClampNeg)) then x3 else x6 : Int32), .int (if x2 ≤ (mem 42 (((256 * x6) + x7).toNatClampNeg)) then x4 else x7 : Int32), .int x5, .int x6, .int x7, .int (mem 42 (((256 * x6) + x7).toNatClampNeg)), .int (zb (¬ (¬ ((mem 33 10) &&& (x7 ^^^ (-1))) = 0) ∧ (¬ (100000000 ≤ (mem 42 (((256 * x6) + x7).toNatClampNeg))))))] [] mem Q := pm_phi3 (f := fun z0 z1 z2 => pm_Ex ro m_X10_boughtOf 104 [.ref 33, .int x1, .int z0, .int z1, .int z2, .int x5, .int x6, .int x7, .int (mem 42 (((256 * x6) + x7).toNatClampNeg)), .int (zb (¬ (¬ ((mem 33 10) &&& (x7 ^^^ (-1))) = 0) ∧ (¬ (100000000 ≤ (mem 42 (((256 * x6) + x7).toNatClampNeg))))))] [] mem Q) (if_pos (zb1 h)) (if_pos (zb1 h)) (if_pos (zb1 h)) kp28
        have kp27 : pm_Ex ro m_X10_boughtOf 104 [.ref 33, .int x1, .int (if x2 ≤ (mem 42 (((256 * x6) + x7).toNatClampNeg)) then x2 else mem 42 (((256 * x6) + x7).toNatClampNeg) : Int32), .int (if x2 ≤ (mem 42 (((256 * x6) + x7).toNatClampNeg)) then x3 else x6 : Int32), .int (if x2 ≤ (mem 42 (((256 * x6) + x7).toNatClampNeg)) then x4 else x7 : Int32), .int x5, .int x6, .int x7, .int (mem 42 (((256 * x6) + x7).toNatClampNeg)), .int (zb (¬ (¬ ((mem 33 10) &&& (x7 ^^^ (-1))) = 0) ∧ (¬ (100000000 ≤ (mem 42 (((256 * x6) + x7).toNatClampNeg))))))] [] mem Q := by
          exact kp28b
        refine ex_many (pc' := 91) (ls' := [.ref 33, .int x1, .int x2, .int x3, .int x4, .int x5, .int x6, .int x7, .int (mem 42 (((256 * x6) + x7).toNatClampNeg)), .int (zb (¬ (¬ ((mem 33 10) &&& (x7 ^^^ (-1))) = 0) ∧ (¬ (100000000 ≤ (mem 42 (((256 * x6) + x7).toNatClampNeg))))))]) (st' := [.int x2, .int (mem 42 (((256 * x6) + x7).toNatClampNeg))]) (mem' := mem) hS hC 2 rfl ?_
        refine ex_br (P := x2 ≤ (mem 42 (((256 * x6) + x7).toNatClampNeg))) (a := 104) (b := 94) (ls' := [.ref 33, .int x1, .int x2, .int x3, .int x4, .int x5, .int x6, .int x7, .int (mem 42 (((256 * x6) + x7).toNatClampNeg)), .int (zb (¬ (¬ ((mem 33 10) &&& (x7 ^^^ (-1))) = 0) ∧ (¬ (100000000 ≤ (mem 42 (((256 * x6) + x7).toNatClampNeg))))))]) (st' := []) (mem' := mem) hS hC rfl (fun h => ?_) (fun h => ?_)
        · have kp27a : pm_Ex ro m_X10_boughtOf 104 [.ref 33, .int x1, .int x2, .int x3, .int x4, .int x5, .int x6, .int x7, .int (mem 42 (((256 * x6) + x7).toNatClampNeg)), .int (zb (¬ (¬ ((mem 33 10) &&& (x7 ^^^ (-1))) = 0) ∧ (¬ (100000000 ≤ (mem 42 (((256 * x6) + x7).toNatClampNeg))))))] [] mem Q := pm_phi3 (f := fun z0 z1 z2 => pm_Ex ro m_X10_boughtOf 104 [.ref 33, .int x1, .int z0, .int z1, .int z2, .int x5, .int x6, .int x7, .int (mem 42 (((256 * x6) + x7).toNatClampNeg)), .int (zb (¬ (¬ ((mem 33 10) &&& (x7 ^^^ (-1))) = 0) ∧ (¬ (100000000 ≤ (mem 42 (((256 * x6) + x7).toNatClampNeg))))))] [] mem Q) (if_pos (h)) (if_pos (h)) (if_pos (h)) kp27
          exact kp27a
        · have kp27b : pm_Ex ro m_X10_boughtOf 104 [.ref 33, .int x1, .int (mem 42 (((256 * x6) + x7).toNatClampNeg)), .int x6, .int x7, .int x5, .int x6, .int x7, .int (mem 42 (((256 * x6) + x7).toNatClampNeg)), .int (zb (¬ (¬ ((mem 33 10) &&& (x7 ^^^ (-1))) = 0) ∧ (¬ (100000000 ≤ (mem 42 (((256 * x6) + x7).toNatClampNeg))))))] [] mem Q := pm_phi3 (f := fun z0 z1 z2 => pm_Ex ro m_X10_boughtOf 104 [.ref 33, .int x1, .int z0, .int z1, .int z2, .int x5, .int x6, .int x7, .int (mem 42 (((256 * x6) + x7).toNatClampNeg)), .int (zb (¬ (¬ ((mem 33 10) &&& (x7 ^^^ (-1))) = 0) ∧ (¬ (100000000 ≤ (mem 42 (((256 * x6) + x7).toNatClampNeg))))))] [] mem Q) (if_neg (h)) (if_neg (h)) (if_neg (h)) kp27
          refine ex_many (pc' := 104) (ls' := [.ref 33, .int x1, .int (mem 42 (((256 * x6) + x7).toNatClampNeg)), .int x6, .int x7, .int x5, .int x6, .int x7, .int (mem 42 (((256 * x6) + x7).toNatClampNeg)), .int (zb (¬ (¬ ((mem 33 10) &&& (x7 ^^^ (-1))) = 0) ∧ (¬ (100000000 ≤ (mem 42 (((256 * x6) + x7).toNatClampNeg))))))]) (st' := []) (mem' := mem) hS hC 6 rfl ?_
          exact kp27b
    refine ex_br (P := ¬ ((mem 33 10) &&& (x7 ^^^ (-1))) = 0) (a := 80) (b := 69) (ls' := [.ref 33, .int x1, .int x2, .int x3, .int x4, .int x5, .int x6, .int x7, .int (mem 42 (((256 * x6) + x7).toNatClampNeg)), .null]) (st' := []) (mem' := mem) hS hC rfl (fun h => ?_) (fun h => ?_)
    · have kp29a : pm_Ex ro m_X10_boughtOf 81 [.ref 33, .int x1, .int x2, .int x3, .int x4, .int x5, .int x6, .int x7, .int (mem 42 (((256 * x6) + x7).toNatClampNeg)), .null] [.int 0] mem Q := pm_phi1 (f := fun z0 => pm_Ex ro m_X10_boughtOf 81 [.ref 33, .int x1, .int x2, .int x3, .int x4, .int x5, .int x6, .int x7, .int (mem 42 (((256 * x6) + x7).toNatClampNeg)), .null] [.int z0] mem Q) (zbN_t (h)) kp29
      refine ex_many (pc' := 81) (ls' := [.ref 33, .int x1, .int x2, .int x3, .int x4, .int x5, .int x6, .int x7, .int (mem 42 (((256 * x6) + x7).toNatClampNeg)), .null]) (st' := [.int 0]) (mem' := mem) hS hC 1 rfl ?_
      exact kp29a
    · have kp29b : pm_Ex ro m_X10_boughtOf 81 [.ref 33, .int x1, .int x2, .int x3, .int x4, .int x5, .int x6, .int x7, .int (mem 42 (((256 * x6) + x7).toNatClampNeg)), .null] [.int (zb (¬ (100000000 ≤ (mem 42 (((256 * x6) + x7).toNatClampNeg)))))] mem Q := pm_phi1 (f := fun z0 => pm_Ex ro m_X10_boughtOf 81 [.ref 33, .int x1, .int x2, .int x3, .int x4, .int x5, .int x6, .int x7, .int (mem 42 (((256 * x6) + x7).toNatClampNeg)), .null] [.int z0] mem Q) (zbN_f (h)) kp29
      have kp26 : pm_Ex ro m_X10_boughtOf 81 [.ref 33, .int x1, .int x2, .int x3, .int x4, .int x5, .int x6, .int x7, .int (mem 42 (((256 * x6) + x7).toNatClampNeg)), .null] [.int (zb (¬ (100000000 ≤ (mem 42 (((256 * x6) + x7).toNatClampNeg)))))] mem Q := by
        exact kp29b
      refine ex_many (pc' := 73) (ls' := [.ref 33, .int x1, .int x2, .int x3, .int x4, .int x5, .int x6, .int x7, .int (mem 42 (((256 * x6) + x7).toNatClampNeg)), .null]) (st' := [.int 100000000, .int (mem 42 (((256 * x6) + x7).toNatClampNeg))]) (mem' := mem) hS hC 2 rfl ?_
      refine ex_br (P := 100000000 ≤ (mem 42 (((256 * x6) + x7).toNatClampNeg))) (a := 80) (b := 76) (ls' := [.ref 33, .int x1, .int x2, .int x3, .int x4, .int x5, .int x6, .int x7, .int (mem 42 (((256 * x6) + x7).toNatClampNeg)), .null]) (st' := []) (mem' := mem) hS hC rfl (fun h => ?_) (fun h => ?_)
      · have kp26a : pm_Ex ro m_X10_boughtOf 81 [.ref 33, .int x1, .int x2, .int x3, .int x4, .int x5, .int x6, .int x7, .int (mem 42 (((256 * x6) + x7).toNatClampNeg)), .null] [.int 0] mem Q := pm_phi1 (f := fun z0 => pm_Ex ro m_X10_boughtOf 81 [.ref 33, .int x1, .int x2, .int x3, .int x4, .int x5, .int x6, .int x7, .int (mem 42 (((256 * x6) + x7).toNatClampNeg)), .null] [.int z0] mem Q) (zb_npos (h)) kp26
        refine ex_many (pc' := 81) (ls' := [.ref 33, .int x1, .int x2, .int x3, .int x4, .int x5, .int x6, .int x7, .int (mem 42 (((256 * x6) + x7).toNatClampNeg)), .null]) (st' := [.int 0]) (mem' := mem) hS hC 1 rfl ?_
        exact kp26a
      · have kp26b : pm_Ex ro m_X10_boughtOf 81 [.ref 33, .int x1, .int x2, .int x3, .int x4, .int x5, .int x6, .int x7, .int (mem 42 (((256 * x6) + x7).toNatClampNeg)), .null] [.int 1] mem Q := pm_phi1 (f := fun z0 => pm_Ex ro m_X10_boughtOf 81 [.ref 33, .int x1, .int x2, .int x3, .int x4, .int x5, .int x6, .int x7, .int (mem 42 (((256 * x6) + x7).toNatClampNeg)), .null] [.int z0] mem Q) (zb_nneg (h)) kp26
        refine ex_many (pc' := 81) (ls' := [.ref 33, .int x1, .int x2, .int x3, .int x4, .int x5, .int x6, .int x7, .int (mem 42 (((256 * x6) + x7).toNatClampNeg)), .null]) (st' := [.int 1]) (mem' := mem) hS hC 2 rfl ?_
        exact kp26b

set_option maxRecDepth 20000 in
theorem bk_X10_boughtOf_4 {ro : pm_RO} {Q : Option Value → pm_M → Prop} {mem : pm_M} {x1 : Int32} (k : pm_Ex ro m_X10_boughtOf 18 [.ref 33, .int x1, .int 100000000, .int 0, .int 0, .int (-1), .int 0, .null, .null, .null] [] mem Q) : pm_Ex ro m_X10_boughtOf 4 [.ref 33, .int x1, .null, .null, .null, .null, .null, .null, .null, .null] [] mem Q := by
  have hS : pm_sig[m_X10_boughtOf]? = some _ := rfl
  have hC : pm_cod[m_X10_boughtOf]? = some _ := rfl
  refine ex_many (pc' := 18) (ls' := [.ref 33, .int x1, .int 100000000, .int 0, .int 0, .int (-1), .int 0, .null, .null, .null]) (st' := []) (mem' := mem) hS hC 10 rfl ?_
  exact k

set_option maxRecDepth 20000 in
theorem bk_X10_bought_0 {ro : pm_RO} {Q : Option Value → pm_M → Prop} {mem : pm_M} {a1 : Int32} (k : pm_Ex ro m_X10_reads 0 [.ref 33, .null] [] mem (fun v m => pm_Ex ro m_X10_bought 4 [.ref 33, .int a1] (v.toList ++ []) m Q)) : pm_Ex ro m_X10_bought 0 [.ref 33, .int a1] [] mem Q := by
  have hS : pm_sig[m_X10_bought]? = some _ := rfl
  have hC : pm_cod[m_X10_bought]? = some _ := rfl
  refine ex_many (pc' := 1) (ls' := [.ref 33, .int a1]) (st' := [.ref 33]) (mem' := mem) hS hC 1 rfl ?_
  refine ex_call (y' := m_X10_reads) (rest := []) (ent := [.ref 33, .null]) hS hC rfl rfl rfl rfl rfl rfl ?_
  exact k

set_option maxRecDepth 20000 in
theorem bk_X10_bought_4 {ro : pm_RO} {Q : Option Value → pm_M → Prop} {mem : pm_M} {x1 s0 : Int32} (k : (0 ≤ x1 ∧ x1 ≤ 3 → pm_Ex ro m_X10_boughtOf 0 [.ref 33, .int x1, .null, .null, .null, .null, .null, .null, .null, .null] [] mem (fun v m => pm_Ex ro m_X10_bought 22 [.ref 33, .int x1] (v.toList ++ []) m Q)) ∧ (¬ (0 ≤ x1 ∧ x1 ≤ 3) → Q (some (.int (-2))) mem)) : pm_Ex ro m_X10_bought 4 [.ref 33, .int x1] [.int s0] mem Q := by
  have hS : pm_sig[m_X10_bought]? = some _ := rfl
  have hC : pm_cod[m_X10_bought]? = some _ := rfl
  refine ex_many (pc' := 11) (ls' := [.ref 33, .int x1]) (st' := [.long 3, .long 0, .long x1.toInt64]) (mem' := mem) hS hC 5 rfl ?_
  refine ex_call (y' := m_X10_in) (rest := []) (ent := [.long x1.toInt64, .null, .long 0, .null, .long 3, .null]) hS hC rfl rfl rfl rfl rfl rfl ?_
  refine sp_in32 (v := x1) (lo := 0) (hi := 3) (by decide) (by decide) ?_
  show pm_Ex ro m_X10_bought 14 [.ref 33, .int x1] [.int (zb (0 ≤ x1 ∧ x1 ≤ 3))] mem Q
  refine ex_br (P := (zb (0 ≤ x1 ∧ x1 ≤ 3)) = 0) (a := 25) (b := 17) (ls' := [.ref 33, .int x1]) (st' := []) (mem' := mem) hS hC rfl (fun h => ?_) (fun h => ?_)
  · replace k := k.2 (zb0 h)
    refine ex_many (pc' := 27) (ls' := [.ref 33, .int x1]) (st' := [.int (-2)]) (mem' := mem) hS hC 1 rfl ?_
    exact ex_ret (v := (some (.int (-2)))) hS hC rfl rfl rfl k
  · replace k := k.1 (zb1 h)
    refine ex_many (pc' := 19) (ls' := [.ref 33, .int x1]) (st' := [.int x1, .ref 33]) (mem' := mem) hS hC 2 rfl ?_
    refine ex_call (y' := m_X10_boughtOf) (rest := []) (ent := [.ref 33, .int x1, .null, .null, .null, .null, .null, .null, .null, .null]) hS hC rfl rfl rfl rfl rfl rfl ?_
    exact k

set_option maxRecDepth 20000 in
theorem bk_X10_bought_22 {ro : pm_RO} {Q : Option Value → pm_M → Prop} {mem : pm_M} {x1 s0 : Int32} (k : Q (some (.int s0)) mem) : pm_Ex ro m_X10_bought 22 [.ref 33, .int x1] [.int s0] mem Q := by
  have hS : pm_sig[m_X10_bought]? = some _ := rfl
  have hC : pm_cod[m_X10_bought]? = some _ := rfl
  refine ex_many (pc' := 27) (ls' := [.ref 33, .int x1]) (st' := [.int s0]) (mem' := mem) hS hC 1 rfl ?_
  exact ex_ret (v := (some (.int s0))) hS hC rfl rfl rfl k

set_option maxRecDepth 20000 in
theorem bk_X10_addedTo_0 {ro : pm_RO} {Q : Option Value → pm_M → Prop} {mem : pm_M} {a1 : Int32} (k : pm_Ex ro m_X10_addedTo 4 [.ref 33, .int a1, .int 0, .int 1] [] mem Q) : pm_Ex ro m_X10_addedTo 0 [.ref 33, .int a1, .null, .null] [] mem Q := by
  have hS : pm_sig[m_X10_addedTo]? = some _ := rfl
  have hC : pm_cod[m_X10_addedTo]? = some _ := rfl
  refine ex_many (pc' := 4) (ls' := [.ref 33, .int a1, .int 0, .int 1]) (st' := []) (mem' := mem) hS hC 4 rfl ?_
  exact k

set_option maxRecDepth 20000 in
theorem bk_X10_addedTo_4 {ro : pm_RO} {Q : Option Value → pm_M → Prop} {mem : pm_M} {x1 x2 x3 : Int32} (k : (100 ≤ x3 → Q (some (.int x2)) mem) ∧ (¬ (100 ≤ x3) → pm_Ex ro m_X10_paidFor 0 [.ref 33, .int (x1 + x3), .null, .null, .null, .null] [] mem (fun v m => pm_Ex ro m_X10_addedTo 17 [.ref 33, .int x1, .int x2, .int x3] (v.toList ++ []) m Q))) : pm_Ex ro m_X10_addedTo 4 [.ref 33, .int x1, .int x2, .int x3] [] mem Q := by
  have hS : pm_sig[m_X10_addedTo]? = some _ := rfl
  have hC : pm_cod[m_X10_addedTo]? = some _ := rfl
  refine ex_many (pc' := 7) (ls' := [.ref 33, .int x1, .int x2, .int x3]) (st' := [.int 100, .int x3]) (mem' := mem) hS hC 2 rfl ?_
  refine ex_br (P := 100 ≤ x3) (a := 39) (b := 10) (ls' := [.ref 33, .int x1, .int x2, .int x3]) (st' := []) (mem' := mem) hS hC rfl (fun h => ?_) (fun h => ?_)
  · replace k := k.1 (h)
    refine ex_many (pc' := 40) (ls' := [.ref 33, .int x1, .int x2, .int x3]) (st' := [.int x2]) (mem' := mem) hS hC 1 rfl ?_
    exact ex_ret (v := (some (.int x2))) hS hC rfl rfl rfl k
  · replace k := k.2 (h)
    refine ex_many (pc' := 14) (ls' := [.ref 33, .int x1, .int x2, .int x3]) (st' := [.int (x1 + x3), .ref 33]) (mem' := mem) hS hC 4 rfl ?_
    refine ex_call (y' := m_X10_paidFor) (rest := []) (ent := [.ref 33, .int (x1 + x3), .null, .null, .null, .null]) hS hC rfl rfl rfl rfl rfl rfl ?_
    exact k

set_option maxRecDepth 20000 in
theorem bk_X10_addedTo_17 {ro : pm_RO} {Q : Option Value → pm_M → Prop} {mem : pm_M} {x1 x2 x3 s0 : Int32} (k : pm_Ex ro m_X10_paidFor 0 [.ref 33, .int (x1 + x2), .null, .null, .null, .null] [] mem (fun v m => pm_Ex ro m_X10_addedTo 24 [.ref 33, .int x1, .int x2, .int x3] (v.toList ++ [.int s0]) m Q)) : pm_Ex ro m_X10_addedTo 17 [.ref 33, .int x1, .int x2, .int x3] [.int s0] mem Q := by
  have hS : pm_sig[m_X10_addedTo]? = some _ := rfl
  have hC : pm_cod[m_X10_addedTo]? = some _ := rfl
  refine ex_many (pc' := 21) (ls' := [.ref 33, .int x1, .int x2, .int x3]) (st' := [.int (x1 + x2), .ref 33, .int s0]) (mem' := mem) hS hC 4 rfl ?_
  refine ex_call (y' := m_X10_paidFor) (rest := [.int s0]) (ent := [.ref 33, .int (x1 + x2), .null, .null, .null, .null]) hS hC rfl rfl rfl rfl rfl rfl ?_
  exact k

set_option maxRecDepth 20000 in
theorem bk_X10_addedTo_24 {ro : pm_RO} {Q : Option Value → pm_M → Prop} {mem : pm_M} {x1 x2 x3 s0 s1 : Int32} (k : pm_Ex ro m_X10_addedTo 4 [.ref 33, .int x1, .int (if s0 ≤ s1 then x2 else x3 : Int32), .int (x3 + 1)] [] mem Q) : pm_Ex ro m_X10_addedTo 24 [.ref 33, .int x1, .int x2, .int x3] [.int s0, .int s1] mem Q := by
  have hS : pm_sig[m_X10_addedTo]? = some _ := rfl
  have hC : pm_cod[m_X10_addedTo]? = some _ := rfl
  have kp30 : pm_Ex ro m_X10_addedTo 32 [.ref 33, .int x1, .int x2, .int x3] [.int (if s0 ≤ s1 then x2 else x3 : Int32)] mem Q := by
    refine ex_many (pc' := 4) (ls' := [.ref 33, .int x1, .int (if s0 ≤ s1 then x2 else x3 : Int32), .int (x3 + 1)]) (st' := []) (mem' := mem) hS hC 3 rfl ?_
    exact k
  refine ex_br (P := s0 ≤ s1) (a := 31) (b := 27) (ls' := [.ref 33, .int x1, .int x2, .int x3]) (st' := []) (mem' := mem) hS hC rfl (fun h => ?_) (fun h => ?_)
  · have kp30a : pm_Ex ro m_X10_addedTo 32 [.ref 33, .int x1, .int x2, .int x3] [.int x2] mem Q := pm_phi1 (f := fun z0 => pm_Ex ro m_X10_addedTo 32 [.ref 33, .int x1, .int x2, .int x3] [.int z0] mem Q) (if_pos (h)) kp30
    refine ex_many (pc' := 32) (ls' := [.ref 33, .int x1, .int x2, .int x3]) (st' := [.int x2]) (mem' := mem) hS hC 1 rfl ?_
    exact kp30a
  · have kp30b : pm_Ex ro m_X10_addedTo 32 [.ref 33, .int x1, .int x2, .int x3] [.int x3] mem Q := pm_phi1 (f := fun z0 => pm_Ex ro m_X10_addedTo 32 [.ref 33, .int x1, .int x2, .int x3] [.int z0] mem Q) (if_neg (h)) kp30
    refine ex_many (pc' := 32) (ls' := [.ref 33, .int x1, .int x2, .int x3]) (st' := [.int x3]) (mem' := mem) hS hC 2 rfl ?_
    exact kp30b

set_option maxRecDepth 20000 in
theorem bk_X10_added_0 {ro : pm_RO} {Q : Option Value → pm_M → Prop} {mem : pm_M} {a1 : Int32} (k : (0 ≤ a1 ∧ a1 ≤ 9999 → pm_Ex ro m_X10_addedTo 0 [.ref 33, .int a1, .null, .null] [] mem (fun v m => pm_Ex ro m_X10_added 12 [.ref 33, .int a1] (v.toList ++ []) m Q)) ∧ (¬ (0 ≤ a1 ∧ a1 ≤ 9999) → Q (some (.int (-2))) mem)) : pm_Ex ro m_X10_added 0 [.ref 33, .int a1] [] mem Q := by
  have hS : pm_sig[m_X10_added]? = some _ := rfl
  have hC : pm_cod[m_X10_added]? = some _ := rfl
  refine ex_many (pc' := 1) (ls' := [.ref 33, .int a1]) (st' := [.int a1]) (mem' := mem) hS hC 1 rfl ?_
  refine ex_call (y' := m_X10_isNumber) (rest := []) (ent := [.int a1]) hS hC rfl rfl rfl rfl rfl rfl ?_
  refine bk_X10_isNumber_0 ?_
  show pm_Ex ro m_X10_added 4 [.ref 33, .int a1] [.int (zb (0 ≤ a1 ∧ a1 ≤ 9999))] mem Q
  refine ex_br (P := (zb (0 ≤ a1 ∧ a1 ≤ 9999)) = 0) (a := 15) (b := 7) (ls' := [.ref 33, .int a1]) (st' := []) (mem' := mem) hS hC rfl (fun h => ?_) (fun h => ?_)
  · replace k := k.2 (zb0 h)
    refine ex_many (pc' := 17) (ls' := [.ref 33, .int a1]) (st' := [.int (-2)]) (mem' := mem) hS hC 1 rfl ?_
    exact ex_ret (v := (some (.int (-2)))) hS hC rfl rfl rfl k
  · replace k := k.1 (zb1 h)
    refine ex_many (pc' := 9) (ls' := [.ref 33, .int a1]) (st' := [.int a1, .ref 33]) (mem' := mem) hS hC 2 rfl ?_
    refine ex_call (y' := m_X10_addedTo) (rest := []) (ent := [.ref 33, .int a1, .null, .null]) hS hC rfl rfl rfl rfl rfl rfl ?_
    exact k

set_option maxRecDepth 20000 in
theorem bk_X10_added_12 {ro : pm_RO} {Q : Option Value → pm_M → Prop} {mem : pm_M} {x1 s0 : Int32} (k : Q (some (.int s0)) mem) : pm_Ex ro m_X10_added 12 [.ref 33, .int x1] [.int s0] mem Q := by
  have hS : pm_sig[m_X10_added]? = some _ := rfl
  have hC : pm_cod[m_X10_added]? = some _ := rfl
  refine ex_many (pc' := 17) (ls' := [.ref 33, .int x1]) (st' := [.int s0]) (mem' := mem) hS hC 1 rfl ?_
  exact ex_ret (v := (some (.int s0))) hS hC rfl rfl rfl k

set_option maxRecDepth 20000 in
theorem bk_X10_gainBy_0 {ro : pm_RO} {Q : Option Value → pm_M → Prop} {mem : pm_M} {a1 : Int32} (k : pm_Ex ro m_X10_sumOf 0 [.ref 33, .int a1, .null, .null] [] mem (fun v m => pm_Ex ro m_X10_gainBy 5 [.ref 33, .int a1] (v.toList ++ []) m Q)) : pm_Ex ro m_X10_gainBy 0 [.ref 33, .int a1] [] mem Q := by
  have hS : pm_sig[m_X10_gainBy]? = some _ := rfl
  have hC : pm_cod[m_X10_gainBy]? = some _ := rfl
  refine ex_many (pc' := 2) (ls' := [.ref 33, .int a1]) (st' := [.int a1, .ref 33]) (mem' := mem) hS hC 2 rfl ?_
  refine ex_call (y' := m_X10_sumOf) (rest := []) (ent := [.ref 33, .int a1, .null, .null]) hS hC rfl rfl rfl rfl rfl rfl ?_
  exact k

set_option maxRecDepth 20000 in
theorem bk_X10_gainBy_5 {ro : pm_RO} {Q : Option Value → pm_M → Prop} {mem : pm_M} {x1 s0 : Int32} (k : pm_Ex ro m_X10_sumOf 0 [.ref 33, .int x1, .null, .null] [] mem (fun v m => pm_Ex ro m_X10_gainBy 11 [.ref 33, .int x1] (v.toList ++ [.ref 33, .int s0]) m Q)) : pm_Ex ro m_X10_gainBy 5 [.ref 33, .int x1] [.int s0] mem Q := by
  have hS : pm_sig[m_X10_gainBy]? = some _ := rfl
  have hC : pm_cod[m_X10_gainBy]? = some _ := rfl
  refine ex_many (pc' := 8) (ls' := [.ref 33, .int x1]) (st' := [.int x1, .ref 33, .ref 33, .int s0]) (mem' := mem) hS hC 3 rfl ?_
  refine ex_call (y' := m_X10_sumOf) (rest := [.ref 33, .int s0]) (ent := [.ref 33, .int x1, .null, .null]) hS hC rfl rfl rfl rfl rfl rfl ?_
  exact k

set_option maxRecDepth 20000 in
theorem bk_X10_gainBy_11 {ro : pm_RO} {Q : Option Value → pm_M → Prop} {mem : pm_M} {x1 s0 s2 : Int32} (k : pm_Ex ro m_X10_paidFor 0 [.ref 33, .int s0, .null, .null, .null, .null] [] mem (fun v m => pm_Ex ro m_X10_gainBy 14 [.ref 33, .int x1] (v.toList ++ [.int s2]) m Q)) : pm_Ex ro m_X10_gainBy 11 [.ref 33, .int x1] [.int s0, .ref 33, .int s2] mem Q := by
  have hS : pm_sig[m_X10_gainBy]? = some _ := rfl
  have hC : pm_cod[m_X10_gainBy]? = some _ := rfl
  refine ex_call (y' := m_X10_paidFor) (rest := [.int s2]) (ent := [.ref 33, .int s0, .null, .null, .null, .null]) hS hC rfl rfl rfl rfl rfl rfl ?_
  exact k

set_option maxRecDepth 20000 in
theorem bk_X10_gainBy_14 {ro : pm_RO} {Q : Option Value → pm_M → Prop} {mem : pm_M} {x1 s0 s1 : Int32} (k : Q (some (.int (s1 - s0))) mem) : pm_Ex ro m_X10_gainBy 14 [.ref 33, .int x1] [.int s0, .int s1] mem Q := by
  have hS : pm_sig[m_X10_gainBy]? = some _ := rfl
  have hC : pm_cod[m_X10_gainBy]? = some _ := rfl
  refine ex_many (pc' := 15) (ls' := [.ref 33, .int x1]) (st' := [.int (s1 - s0)]) (mem' := mem) hS hC 1 rfl ?_
  exact ex_ret (v := (some (.int (s1 - s0)))) hS hC rfl rfl rfl k

set_option maxRecDepth 20000 in
theorem bk_X10_proofOf_0 {ro : pm_RO} {Q : Option Value → pm_M → Prop} {mem : pm_M} {a1 a2 : Int32} (k : pm_Ex ro m_X10_proofOf 5 [.ref 33, .int a1, .int a2, .int (-1), .int 1] [] mem Q) : pm_Ex ro m_X10_proofOf 0 [.ref 33, .int a1, .int a2, .null, .null] [] mem Q := by
  have hS : pm_sig[m_X10_proofOf]? = some _ := rfl
  have hC : pm_cod[m_X10_proofOf]? = some _ := rfl
  refine ex_many (pc' := 5) (ls' := [.ref 33, .int a1, .int a2, .int (-1), .int 1]) (st' := []) (mem' := mem) hS hC 4 rfl ?_
  exact k

set_option maxRecDepth 20000 in
theorem bk_X10_proofOf_5 {ro : pm_RO} {Q : Option Value → pm_M → Prop} {mem : pm_M} {x1 x2 x3 x4 : Int32} (k : ((((1 : Int32) <<< ((mem 33 8) &&& 31)) - 1) < x4 → (¬ x3 = (-1) → (¬ x2 = 0 → Q (some (.int x3)) mem) ∧ (¬ (¬ x2 = 0) → pm_Ex ro m_X10_gainBy 0 [.ref 33, .int x3] [] mem (fun v m => pm_Ex ro m_X10_proofOf 74 [.ref 33, .int x1, .int x2, .int x3, .int x4] (v.toList ++ []) m Q))) ∧ (¬ (¬ x3 = (-1)) → Q (some (.int (-100003))) mem)) ∧ (¬ ((((1 : Int32) <<< ((mem 33 8) &&& 31)) - 1) < x4) → pm_Ex ro m_X10_ones 0 [.int x4, .null, .null] [] mem (fun v m => pm_Ex ro m_X10_proofOf 19 [.ref 33, .int x1, .int x2, .int x3, .int x4] (v.toList ++ []) m Q))) : pm_Ex ro m_X10_proofOf 5 [.ref 33, .int x1, .int x2, .int x3, .int x4] [] mem Q := by
  have hS : pm_sig[m_X10_proofOf]? = some _ := rfl
  have hC : pm_cod[m_X10_proofOf]? = some _ := rfl
  refine ex_many (pc' := 8) (ls' := [.ref 33, .int x1, .int x2, .int x3, .int x4]) (st' := [.ref 33, .int x4]) (mem' := mem) hS hC 2 rfl ?_
  refine ex_call (y' := m_X10_whole) (rest := [.int x4]) (ent := [.ref 33]) hS hC rfl rfl rfl rfl rfl rfl ?_
  refine bk_X10_whole_0 ?_
  show pm_Ex ro m_X10_proofOf 11 [.ref 33, .int x1, .int x2, .int x3, .int x4] [.int (((1 : Int32) <<< ((mem 33 8) &&& 31)) - 1), .int x4] mem Q
  refine ex_br (P := (((1 : Int32) <<< ((mem 33 8) &&& 31)) - 1) < x4) (a := 55) (b := 14) (ls' := [.ref 33, .int x1, .int x2, .int x3, .int x4]) (st' := []) (mem' := mem) hS hC rfl (fun h => ?_) (fun h => ?_)
  · replace k := k.1 (h)
    refine ex_many (pc' := 57) (ls' := [.ref 33, .int x1, .int x2, .int x3, .int x4]) (st' := [.int (-1), .int x3]) (mem' := mem) hS hC 2 rfl ?_
    refine ex_br (P := ¬ x3 = (-1)) (a := 65) (b := 60) (ls' := [.ref 33, .int x1, .int x2, .int x3, .int x4]) (st' := []) (mem' := mem) hS hC rfl (fun h => ?_) (fun h => ?_)
    · replace k := k.1 (h)
      refine ex_many (pc' := 66) (ls' := [.ref 33, .int x1, .int x2, .int x3, .int x4]) (st' := [.int x2]) (mem' := mem) hS hC 1 rfl ?_
      refine ex_br (P := ¬ x2 = 0) (a := 77) (b := 69) (ls' := [.ref 33, .int x1, .int x2, .int x3, .int x4]) (st' := []) (mem' := mem) hS hC rfl (fun h => ?_) (fun h => ?_)
      · replace k := k.1 (h)
        refine ex_many (pc' := 78) (ls' := [.ref 33, .int x1, .int x2, .int x3, .int x4]) (st' := [.int x3]) (mem' := mem) hS hC 1 rfl ?_
        exact ex_ret (v := (some (.int x3))) hS hC rfl rfl rfl k
      · replace k := k.2 (h)
        refine ex_many (pc' := 71) (ls' := [.ref 33, .int x1, .int x2, .int x3, .int x4]) (st' := [.int x3, .ref 33]) (mem' := mem) hS hC 2 rfl ?_
        refine ex_call (y' := m_X10_gainBy) (rest := []) (ent := [.ref 33, .int x3]) hS hC rfl rfl rfl rfl rfl rfl ?_
        exact k
    · replace k := k.2 (h)
      refine ex_many (pc' := 78) (ls' := [.ref 33, .int x1, .int x2, .int x3, .int x4]) (st' := [.int (-100003)]) (mem' := mem) hS hC 2 rfl ?_
      exact ex_ret (v := (some (.int (-100003)))) hS hC rfl rfl rfl k
  · replace k := k.2 (h)
    refine ex_many (pc' := 16) (ls' := [.ref 33, .int x1, .int x2, .int x3, .int x4]) (st' := [.int x4]) (mem' := mem) hS hC 1 rfl ?_
    refine ex_call (y' := m_X10_ones) (rest := []) (ent := [.int x4, .null, .null]) hS hC rfl rfl rfl rfl rfl rfl ?_
    exact k

set_option maxRecDepth 20000 in
theorem bk_X10_proofOf_19 {ro : pm_RO} {Q : Option Value → pm_M → Prop} {mem : pm_M} {x1 x2 x3 x4 s0 : Int32} (k : (x1 < s0 → pm_Ex ro m_X10_proofOf 5 [.ref 33, .int x1, .int x2, .int x3, .int (x4 + 1)] [] mem Q) ∧ (¬ (x1 < s0) → (x3 = (-1) → pm_Ex ro m_X10_proofOf 5 [.ref 33, .int x1, .int x2, .int x4, .int (x4 + 1)] [] mem Q) ∧ (¬ (x3 = (-1)) → pm_Ex ro m_X10_gainBy 0 [.ref 33, .int x4] [] mem (fun v m => pm_Ex ro m_X10_proofOf 34 [.ref 33, .int x1, .int x2, .int x3, .int x4] (v.toList ++ []) m Q)))) : pm_Ex ro m_X10_proofOf 19 [.ref 33, .int x1, .int x2, .int x3, .int x4] [.int s0] mem Q := by
  have hS : pm_sig[m_X10_proofOf]? = some _ := rfl
  have hC : pm_cod[m_X10_proofOf]? = some _ := rfl
  refine ex_many (pc' := 20) (ls' := [.ref 33, .int x1, .int x2, .int x3, .int x4]) (st' := [.int x1, .int s0]) (mem' := mem) hS hC 1 rfl ?_
  refine ex_br (P := x1 < s0) (a := 47) (b := 23) (ls' := [.ref 33, .int x1, .int x2, .int x3, .int x4]) (st' := []) (mem' := mem) hS hC rfl (fun h => ?_) (fun h => ?_)
  · replace k := k.1 (h)
    refine ex_many (pc' := 5) (ls' := [.ref 33, .int x1, .int x2, .int x3, .int (x4 + 1)]) (st' := []) (mem' := mem) hS hC 4 rfl ?_
    exact k
  · replace k := k.2 (h)
    refine ex_many (pc' := 25) (ls' := [.ref 33, .int x1, .int x2, .int x3, .int x4]) (st' := [.int (-1), .int x3]) (mem' := mem) hS hC 2 rfl ?_
    refine ex_br (P := x3 = (-1)) (a := 42) (b := 28) (ls' := [.ref 33, .int x1, .int x2, .int x3, .int x4]) (st' := []) (mem' := mem) hS hC rfl (fun h => ?_) (fun h => ?_)
    · replace k := k.1 (h)
      refine ex_many (pc' := 5) (ls' := [.ref 33, .int x1, .int x2, .int x4, .int (x4 + 1)]) (st' := []) (mem' := mem) hS hC 5 rfl ?_
      exact k
    · replace k := k.2 (h)
      refine ex_many (pc' := 31) (ls' := [.ref 33, .int x1, .int x2, .int x3, .int x4]) (st' := [.int x4, .ref 33]) (mem' := mem) hS hC 2 rfl ?_
      refine ex_call (y' := m_X10_gainBy) (rest := []) (ent := [.ref 33, .int x4]) hS hC rfl rfl rfl rfl rfl rfl ?_
      exact k

set_option maxRecDepth 20000 in
theorem bk_X10_proofOf_74 {ro : pm_RO} {Q : Option Value → pm_M → Prop} {mem : pm_M} {x1 x2 x3 x4 s0 : Int32} (k : Q (some (.int s0)) mem) : pm_Ex ro m_X10_proofOf 74 [.ref 33, .int x1, .int x2, .int x3, .int x4] [.int s0] mem Q := by
  have hS : pm_sig[m_X10_proofOf]? = some _ := rfl
  have hC : pm_cod[m_X10_proofOf]? = some _ := rfl
  refine ex_many (pc' := 78) (ls' := [.ref 33, .int x1, .int x2, .int x3, .int x4]) (st' := [.int s0]) (mem' := mem) hS hC 1 rfl ?_
  exact ex_ret (v := (some (.int s0))) hS hC rfl rfl rfl k

set_option maxRecDepth 20000 in
theorem bk_X10_proofOf_34 {ro : pm_RO} {Q : Option Value → pm_M → Prop} {mem : pm_M} {x1 x2 x3 x4 s0 : Int32} (k : pm_Ex ro m_X10_gainBy 0 [.ref 33, .int x3] [] mem (fun v m => pm_Ex ro m_X10_proofOf 39 [.ref 33, .int x1, .int x2, .int x3, .int x4] (v.toList ++ [.int s0]) m Q)) : pm_Ex ro m_X10_proofOf 34 [.ref 33, .int x1, .int x2, .int x3, .int x4] [.int s0] mem Q := by
  have hS : pm_sig[m_X10_proofOf]? = some _ := rfl
  have hC : pm_cod[m_X10_proofOf]? = some _ := rfl
  refine ex_many (pc' := 36) (ls' := [.ref 33, .int x1, .int x2, .int x3, .int x4]) (st' := [.int x3, .ref 33, .int s0]) (mem' := mem) hS hC 2 rfl ?_
  refine ex_call (y' := m_X10_gainBy) (rest := [.int s0]) (ent := [.ref 33, .int x3]) hS hC rfl rfl rfl rfl rfl rfl ?_
  exact k

set_option maxRecDepth 20000 in
theorem bk_X10_proofOf_39 {ro : pm_RO} {Q : Option Value → pm_M → Prop} {mem : pm_M} {x1 x2 x3 x4 s0 s1 : Int32} (k : pm_Ex ro m_X10_proofOf 5 [.ref 33, .int x1, .int x2, .int (if s1 ≤ s0 then x3 else x4 : Int32), .int (x4 + 1)] [] mem Q) : pm_Ex ro m_X10_proofOf 39 [.ref 33, .int x1, .int x2, .int x3, .int x4] [.int s0, .int s1] mem Q := by
  have hS : pm_sig[m_X10_proofOf]? = some _ := rfl
  have hC : pm_cod[m_X10_proofOf]? = some _ := rfl
  have kp31 : pm_Ex ro m_X10_proofOf 48 [.ref 33, .int x1, .int x2, .int x3, .int x4] [.int (if s1 ≤ s0 then x3 else x4 : Int32)] mem Q := by
    refine ex_many (pc' := 5) (ls' := [.ref 33, .int x1, .int x2, .int (if s1 ≤ s0 then x3 else x4 : Int32), .int (x4 + 1)]) (st' := []) (mem' := mem) hS hC 3 rfl ?_
    exact k
  refine ex_br (P := s1 ≤ s0) (a := 47) (b := 42) (ls' := [.ref 33, .int x1, .int x2, .int x3, .int x4]) (st' := []) (mem' := mem) hS hC rfl (fun h => ?_) (fun h => ?_)
  · have kp31a : pm_Ex ro m_X10_proofOf 48 [.ref 33, .int x1, .int x2, .int x3, .int x4] [.int x3] mem Q := pm_phi1 (f := fun z0 => pm_Ex ro m_X10_proofOf 48 [.ref 33, .int x1, .int x2, .int x3, .int x4] [.int z0] mem Q) (if_pos (h)) kp31
    refine ex_many (pc' := 48) (ls' := [.ref 33, .int x1, .int x2, .int x3, .int x4]) (st' := [.int x3]) (mem' := mem) hS hC 1 rfl ?_
    exact kp31a
  · have kp31b : pm_Ex ro m_X10_proofOf 48 [.ref 33, .int x1, .int x2, .int x3, .int x4] [.int x4] mem Q := pm_phi1 (f := fun z0 => pm_Ex ro m_X10_proofOf 48 [.ref 33, .int x1, .int x2, .int x3, .int x4] [.int z0] mem Q) (if_neg (h)) kp31
    refine ex_many (pc' := 48) (ls' := [.ref 33, .int x1, .int x2, .int x3, .int x4]) (st' := [.int x4]) (mem' := mem) hS hC 2 rfl ?_
    exact kp31b

set_option maxRecDepth 20000 in
theorem bk_X10_proof_0 {ro : pm_RO} {Q : Option Value → pm_M → Prop} {mem : pm_M} {a1 a2 : Int32} (k : pm_Ex ro m_X10_reads 0 [.ref 33, .null] [] mem (fun v m => pm_Ex ro m_X10_proof 4 [.ref 33, .int a1, .int a2] (v.toList ++ []) m Q)) : pm_Ex ro m_X10_proof 0 [.ref 33, .int a1, .int a2] [] mem Q := by
  have hS : pm_sig[m_X10_proof]? = some _ := rfl
  have hC : pm_cod[m_X10_proof]? = some _ := rfl
  refine ex_many (pc' := 1) (ls' := [.ref 33, .int a1, .int a2]) (st' := [.ref 33]) (mem' := mem) hS hC 1 rfl ?_
  refine ex_call (y' := m_X10_reads) (rest := []) (ent := [.ref 33, .null]) hS hC rfl rfl rfl rfl rfl rfl ?_
  exact k

set_option maxRecDepth 20000 in
theorem bk_X10_proof_4 {ro : pm_RO} {Q : Option Value → pm_M → Prop} {mem : pm_M} {x1 x2 s0 : Int32} (k : (1 ≤ x1 ∧ x1 ≤ 8 → (0 ≤ x2 ∧ x2 ≤ 1 → pm_Ex ro m_X10_proofOf 0 [.ref 33, .int x1, .int x2, .null, .null] [] mem (fun v m => pm_Ex ro m_X10_proof 30 [.ref 33, .int x1, .int x2] (v.toList ++ []) m Q)) ∧ (¬ (0 ≤ x2 ∧ x2 ≤ 1) → Q (some (.int (-100002))) mem)) ∧ (¬ (1 ≤ x1 ∧ x1 ≤ 8) → Q (some (.int (-100002))) mem)) : pm_Ex ro m_X10_proof 4 [.ref 33, .int x1, .int x2] [.int s0] mem Q := by
  have hS : pm_sig[m_X10_proof]? = some _ := rfl
  have hC : pm_cod[m_X10_proof]? = some _ := rfl
  refine ex_many (pc' := 11) (ls' := [.ref 33, .int x1, .int x2]) (st' := [.long 8, .long 1, .long x1.toInt64]) (mem' := mem) hS hC 5 rfl ?_
  refine ex_call (y' := m_X10_in) (rest := []) (ent := [.long x1.toInt64, .null, .long 1, .null, .long 8, .null]) hS hC rfl rfl rfl rfl rfl rfl ?_
  refine sp_in32 (v := x1) (lo := 1) (hi := 8) (by decide) (by decide) ?_
  show pm_Ex ro m_X10_proof 14 [.ref 33, .int x1, .int x2] [.int (zb (1 ≤ x1 ∧ x1 ≤ 8))] mem Q
  refine ex_br (P := (zb (1 ≤ x1 ∧ x1 ≤ 8)) = 0) (a := 33) (b := 17) (ls' := [.ref 33, .int x1, .int x2]) (st' := []) (mem' := mem) hS hC rfl (fun h => ?_) (fun h => ?_)
  · replace k := k.2 (zb0 h)
    refine ex_many (pc' := 35) (ls' := [.ref 33, .int x1, .int x2]) (st' := [.int (-100002)]) (mem' := mem) hS hC 1 rfl ?_
    exact ex_ret (v := (some (.int (-100002)))) hS hC rfl rfl rfl k
  · replace k := k.1 (zb1 h)
    refine ex_many (pc' := 18) (ls' := [.ref 33, .int x1, .int x2]) (st' := [.int x2]) (mem' := mem) hS hC 1 rfl ?_
    refine ex_call (y' := m_X10_isTwo) (rest := []) (ent := [.int x2]) hS hC rfl rfl rfl rfl rfl rfl ?_
    refine bk_X10_isTwo_0 ?_
    show pm_Ex ro m_X10_proof 21 [.ref 33, .int x1, .int x2] [.int (zb (0 ≤ x2 ∧ x2 ≤ 1))] mem Q
    refine ex_br (P := (zb (0 ≤ x2 ∧ x2 ≤ 1)) = 0) (a := 33) (b := 24) (ls' := [.ref 33, .int x1, .int x2]) (st' := []) (mem' := mem) hS hC rfl (fun h => ?_) (fun h => ?_)
    · replace k := k.2 (zb0 h)
      refine ex_many (pc' := 35) (ls' := [.ref 33, .int x1, .int x2]) (st' := [.int (-100002)]) (mem' := mem) hS hC 1 rfl ?_
      exact ex_ret (v := (some (.int (-100002)))) hS hC rfl rfl rfl k
    · replace k := k.1 (zb1 h)
      refine ex_many (pc' := 27) (ls' := [.ref 33, .int x1, .int x2]) (st' := [.int x2, .int x1, .ref 33]) (mem' := mem) hS hC 3 rfl ?_
      refine ex_call (y' := m_X10_proofOf) (rest := []) (ent := [.ref 33, .int x1, .int x2, .null, .null]) hS hC rfl rfl rfl rfl rfl rfl ?_
      exact k

set_option maxRecDepth 20000 in
theorem bk_X10_proof_30 {ro : pm_RO} {Q : Option Value → pm_M → Prop} {mem : pm_M} {x1 x2 s0 : Int32} (k : Q (some (.int s0)) mem) : pm_Ex ro m_X10_proof 30 [.ref 33, .int x1, .int x2] [.int s0] mem Q := by
  have hS : pm_sig[m_X10_proof]? = some _ := rfl
  have hC : pm_cod[m_X10_proof]? = some _ := rfl
  refine ex_many (pc' := 35) (ls' := [.ref 33, .int x1, .int x2]) (st' := [.int s0]) (mem' := mem) hS hC 1 rfl ?_
  exact ex_ret (v := (some (.int s0))) hS hC rfl rfl rfl k

set_option maxRecDepth 20000 in
theorem bk_X10_isProof_0 {ro : pm_RO} {Q : Option Value → pm_M → Prop} {mem : pm_M} {a1 : Int32} (k : pm_Ex ro m_X10_isProof 4 [.ref 33, .int a1, .int 1, .int 1] [] mem Q) : pm_Ex ro m_X10_isProof 0 [.ref 33, .int a1, .null, .null] [] mem Q := by
  have hS : pm_sig[m_X10_isProof]? = some _ := rfl
  have hC : pm_cod[m_X10_isProof]? = some _ := rfl
  refine ex_many (pc' := 4) (ls' := [.ref 33, .int a1, .int 1, .int 1]) (st' := []) (mem' := mem) hS hC 4 rfl ?_
  exact k

set_option maxRecDepth 20000 in
theorem bk_X10_isProof_4 {ro : pm_RO} {Q : Option Value → pm_M → Prop} {mem : pm_M} {x1 x2 x3 : Int32} (k : ((((1 : Int32) <<< ((mem 33 8) &&& 31)) - 1) < x3 → (x2 = 0 ∨ x2 = 1) ∧ Q (some (.int x2)) mem) ∧ (¬ ((((1 : Int32) <<< ((mem 33 8) &&& 31)) - 1) < x3) → (x2 = 0 → pm_Ex ro m_X10_isProof 4 [.ref 33, .int x1, .int 0, .int (x3 + 1)] [] mem Q) ∧ (¬ (x2 = 0) → pm_Ex ro m_X10_gainBy 0 [.ref 33, .int x3] [] mem (fun v m => pm_Ex ro m_X10_isProof 21 [.ref 33, .int x1, .int x2, .int x3] (v.toList ++ []) m Q)))) : pm_Ex ro m_X10_isProof 4 [.ref 33, .int x1, .int x2, .int x3] [] mem Q := by
  have hS : pm_sig[m_X10_isProof]? = some _ := rfl
  have hC : pm_cod[m_X10_isProof]? = some _ := rfl
  refine ex_many (pc' := 6) (ls' := [.ref 33, .int x1, .int x2, .int x3]) (st' := [.ref 33, .int x3]) (mem' := mem) hS hC 2 rfl ?_
  refine ex_call (y' := m_X10_whole) (rest := [.int x3]) (ent := [.ref 33]) hS hC rfl rfl rfl rfl rfl rfl ?_
  refine bk_X10_whole_0 ?_
  show pm_Ex ro m_X10_isProof 9 [.ref 33, .int x1, .int x2, .int x3] [.int (((1 : Int32) <<< ((mem 33 8) &&& 31)) - 1), .int x3] mem Q
  refine ex_br (P := (((1 : Int32) <<< ((mem 33 8) &&& 31)) - 1) < x3) (a := 37) (b := 12) (ls' := [.ref 33, .int x1, .int x2, .int x3]) (st' := []) (mem' := mem) hS hC rfl (fun h => ?_) (fun h => ?_)
  · replace k := k.1 (h)
    refine ex_many (pc' := 38) (ls' := [.ref 33, .int x1, .int x2, .int x3]) (st' := [.int x2]) (mem' := mem) hS hC 1 rfl ?_
    exact ex_retz hS hC rfl rfl rfl k.1 k.2
  · replace k := k.2 (h)
    refine ex_many (pc' := 13) (ls' := [.ref 33, .int x1, .int x2, .int x3]) (st' := [.int x2]) (mem' := mem) hS hC 1 rfl ?_
    refine ex_br (P := x2 = 0) (a := 29) (b := 16) (ls' := [.ref 33, .int x1, .int x2, .int x3]) (st' := []) (mem' := mem) hS hC rfl (fun h => ?_) (fun h => ?_)
    · replace k := k.1 (h)
      refine ex_many (pc' := 4) (ls' := [.ref 33, .int x1, .int 0, .int (x3 + 1)]) (st' := []) (mem' := mem) hS hC 4 rfl ?_
      exact k
    · replace k := k.2 (h)
      refine ex_many (pc' := 18) (ls' := [.ref 33, .int x1, .int x2, .int x3]) (st' := [.int x3, .ref 33]) (mem' := mem) hS hC 2 rfl ?_
      refine ex_call (y' := m_X10_gainBy) (rest := []) (ent := [.ref 33, .int x3]) hS hC rfl rfl rfl rfl rfl rfl ?_
      exact k

set_option maxRecDepth 20000 in
theorem bk_X10_isProof_21 {ro : pm_RO} {Q : Option Value → pm_M → Prop} {mem : pm_M} {x1 x2 x3 s0 : Int32} (k : pm_Ex ro m_X10_isProof 4 [.ref 33, .int x1, .int (zb (¬ (x1 < s0))), .int (x3 + 1)] [] mem Q) : pm_Ex ro m_X10_isProof 21 [.ref 33, .int x1, .int x2, .int x3] [.int s0] mem Q := by
  have hS : pm_sig[m_X10_isProof]? = some _ := rfl
  have hC : pm_cod[m_X10_isProof]? = some _ := rfl
  refine ex_many (pc' := 22) (ls' := [.ref 33, .int x1, .int x2, .int x3]) (st' := [.int x1, .int s0]) (mem' := mem) hS hC 1 rfl ?_
  have kp32 : pm_Ex ro m_X10_isProof 30 [.ref 33, .int x1, .int x2, .int x3] [.int (zb (¬ (x1 < s0)))] mem Q := by
    refine ex_many (pc' := 4) (ls' := [.ref 33, .int x1, .int (zb (¬ (x1 < s0))), .int (x3 + 1)]) (st' := []) (mem' := mem) hS hC 3 rfl ?_
    exact k
  refine ex_br (P := x1 < s0) (a := 29) (b := 25) (ls' := [.ref 33, .int x1, .int x2, .int x3]) (st' := []) (mem' := mem) hS hC rfl (fun h => ?_) (fun h => ?_)
  · have kp32a : pm_Ex ro m_X10_isProof 30 [.ref 33, .int x1, .int x2, .int x3] [.int 0] mem Q := pm_phi1 (f := fun z0 => pm_Ex ro m_X10_isProof 30 [.ref 33, .int x1, .int x2, .int x3] [.int z0] mem Q) (zb_npos (h)) kp32
    refine ex_many (pc' := 30) (ls' := [.ref 33, .int x1, .int x2, .int x3]) (st' := [.int 0]) (mem' := mem) hS hC 1 rfl ?_
    exact kp32a
  · have kp32b : pm_Ex ro m_X10_isProof 30 [.ref 33, .int x1, .int x2, .int x3] [.int 1] mem Q := pm_phi1 (f := fun z0 => pm_Ex ro m_X10_isProof 30 [.ref 33, .int x1, .int x2, .int x3] [.int z0] mem Q) (zb_nneg (h)) kp32
    refine ex_many (pc' := 30) (ls' := [.ref 33, .int x1, .int x2, .int x3]) (st' := [.int 1]) (mem' := mem) hS hC 2 rfl ?_
    exact kp32b

set_option maxRecDepth 20000 in
theorem bk_X10_raisedOf_0 {ro : pm_RO} {Q : Option Value → pm_M → Prop} {mem : pm_M} {a1 a2 : Int32} (k : (pm_inb a1 8 = true) ∧ (pm_Ex ro m_X10_raisedOf 13 [.ref 33, .int a1, .int a2, .int (mem 39 a1.toNatClampNeg), .int (-1), .int 0] [] mem Q)) : pm_Ex ro m_X10_raisedOf 0 [.ref 33, .int a1, .int a2, .null, .null, .null] [] mem Q := by
  have hS : pm_sig[m_X10_raisedOf]? = some _ := rfl
  have hC : pm_cod[m_X10_raisedOf]? = some _ := rfl
  refine ex_many (pc' := 5) (ls' := [.ref 33, .int a1, .int a2, .null, .null, .null]) (st' := [.int a1, .ref 39]) (mem' := mem) hS hC 3 rfl ?_
  refine ex_grd (b := pm_inb a1 8) (pc' := 6) (ls' := [.ref 33, .int a1, .int a2, .null, .null, .null]) (st' := [.int (mem 39 a1.toNatClampNeg)]) (mem' := mem) hS hC rfl k.1 ?_
  replace k := k.2
  refine ex_many (pc' := 13) (ls' := [.ref 33, .int a1, .int a2, .int (mem 39 a1.toNatClampNeg), .int (-1), .int 0]) (st' := []) (mem' := mem) hS hC 5 rfl ?_
  exact k

set_option maxRecDepth 20000 in
theorem bk_X10_raisedOf_13 {ro : pm_RO} {Q : Option Value → pm_M → Prop} {mem : pm_M} {x1 x2 x3 x4 x5 : Int32} (k : (100 ≤ x5 → (pm_inb x1 8 = true) ∧ (Q (some (.int x4)) (pm_up mem 39 x1.toNatClampNeg x3))) ∧ (¬ (100 ≤ x5) → (¬ x4 = (-1) → (pm_inb x1 8 = true) ∧ (Q (some (.int x4)) (pm_up mem 39 x1.toNatClampNeg x3))) ∧ (¬ (¬ x4 = (-1)) → (pm_inb x1 8 = true) ∧ (pm_Ex ro m_X10_isProof 0 [.ref 33, .int x2, .null, .null] [] (pm_up mem 39 x1.toNatClampNeg (x3 + x5)) (fun v m => pm_Ex ro m_X10_raisedOf 41 [.ref 33, .int x1, .int x2, .int x3, .int x4, .int x5] (v.toList ++ []) m Q))))) : pm_Ex ro m_X10_raisedOf 13 [.ref 33, .int x1, .int x2, .int x3, .int x4, .int x5] [] mem Q := by
  have hS : pm_sig[m_X10_raisedOf]? = some _ := rfl
  have hC : pm_cod[m_X10_raisedOf]? = some _ := rfl
  refine ex_many (pc' := 17) (ls' := [.ref 33, .int x1, .int x2, .int x3, .int x4, .int x5]) (st' := [.int 100, .int x5]) (mem' := mem) hS hC 2 rfl ?_
  refine ex_br (P := 100 ≤ x5) (a := 58) (b := 20) (ls' := [.ref 33, .int x1, .int x2, .int x3, .int x4, .int x5]) (st' := []) (mem' := mem) hS hC rfl (fun h => ?_) (fun h => ?_)
  · replace k := k.1 (h)
    refine ex_many (pc' := 64) (ls' := [.ref 33, .int x1, .int x2, .int x3, .int x4, .int x5]) (st' := [.int x3, .int x1, .ref 39]) (mem' := mem) hS hC 4 rfl ?_
    refine ex_grd (b := pm_inb x1 8) (pc' := 65) (ls' := [.ref 33, .int x1, .int x2, .int x3, .int x4, .int x5]) (st' := []) (mem' := pm_up mem 39 x1.toNatClampNeg x3) hS hC rfl k.1 ?_
    replace k := k.2
    refine ex_many (pc' := 67) (ls' := [.ref 33, .int x1, .int x2, .int x3, .int x4, .int x5]) (st' := [.int x4]) (mem' := pm_up mem 39 x1.toNatClampNeg x3) hS hC 1 rfl ?_
    exact ex_ret (v := (some (.int x4))) hS hC rfl rfl rfl k
  · replace k := k.2 (h)
    refine ex_many (pc' := 23) (ls' := [.ref 33, .int x1, .int x2, .int x3, .int x4, .int x5]) (st' := [.int (-1), .int x4]) (mem' := mem) hS hC 2 rfl ?_
    refine ex_br (P := ¬ x4 = (-1)) (a := 58) (b := 26) (ls' := [.ref 33, .int x1, .int x2, .int x3, .int x4, .int x5]) (st' := []) (mem' := mem) hS hC rfl (fun h => ?_) (fun h => ?_)
    · replace k := k.1 (h)
      refine ex_many (pc' := 64) (ls' := [.ref 33, .int x1, .int x2, .int x3, .int x4, .int x5]) (st' := [.int x3, .int x1, .ref 39]) (mem' := mem) hS hC 4 rfl ?_
      refine ex_grd (b := pm_inb x1 8) (pc' := 65) (ls' := [.ref 33, .int x1, .int x2, .int x3, .int x4, .int x5]) (st' := []) (mem' := pm_up mem 39 x1.toNatClampNeg x3) hS hC rfl k.1 ?_
      replace k := k.2
      refine ex_many (pc' := 67) (ls' := [.ref 33, .int x1, .int x2, .int x3, .int x4, .int x5]) (st' := [.int x4]) (mem' := pm_up mem 39 x1.toNatClampNeg x3) hS hC 1 rfl ?_
      exact ex_ret (v := (some (.int x4))) hS hC rfl rfl rfl k
    · replace k := k.2 (h)
      refine ex_many (pc' := 35) (ls' := [.ref 33, .int x1, .int x2, .int x3, .int x4, .int x5]) (st' := [.int (x3 + x5), .int x1, .ref 39]) (mem' := mem) hS hC 6 rfl ?_
      refine ex_grd (b := pm_inb x1 8) (pc' := 36) (ls' := [.ref 33, .int x1, .int x2, .int x3, .int x4, .int x5]) (st' := []) (mem' := pm_up mem 39 x1.toNatClampNeg (x3 + x5)) hS hC rfl k.1 ?_
      replace k := k.2
      refine ex_many (pc' := 38) (ls' := [.ref 33, .int x1, .int x2, .int x3, .int x4, .int x5]) (st' := [.int x2, .ref 33]) (mem' := pm_up mem 39 x1.toNatClampNeg (x3 + x5)) hS hC 2 rfl ?_
      refine ex_call (y' := m_X10_isProof) (rest := []) (ent := [.ref 33, .int x2, .null, .null]) hS hC rfl rfl rfl rfl rfl rfl ?_
      exact k

set_option maxRecDepth 20000 in
theorem bk_X10_raisedOf_41 {ro : pm_RO} {Q : Option Value → pm_M → Prop} {mem : pm_M} {x1 x2 x3 x4 x5 s0 : Int32} (k : pm_Ex ro m_X10_raisedOf 13 [.ref 33, .int x1, .int x2, .int x3, .int (if s0 = 0 then -1 else x5 : Int32), .int (x5 + 1)] [] mem Q) : pm_Ex ro m_X10_raisedOf 41 [.ref 33, .int x1, .int x2, .int x3, .int x4, .int x5] [.int s0] mem Q := by
  have hS : pm_sig[m_X10_raisedOf]? = some _ := rfl
  have hC : pm_cod[m_X10_raisedOf]? = some _ := rfl
  have kp33 : pm_Ex ro m_X10_raisedOf 50 [.ref 33, .int x1, .int x2, .int x3, .int x4, .int x5] [.int (if s0 = 0 then -1 else x5 : Int32)] mem Q := by
    refine ex_many (pc' := 13) (ls' := [.ref 33, .int x1, .int x2, .int x3, .int (if s0 = 0 then -1 else x5 : Int32), .int (x5 + 1)]) (st' := []) (mem' := mem) hS hC 3 rfl ?_
    exact k
  refine ex_br (P := s0 = 0) (a := 49) (b := 44) (ls' := [.ref 33, .int x1, .int x2, .int x3, .int x4, .int x5]) (st' := []) (mem' := mem) hS hC rfl (fun h => ?_) (fun h => ?_)
  · have kp33a : pm_Ex ro m_X10_raisedOf 50 [.ref 33, .int x1, .int x2, .int x3, .int x4, .int x5] [.int (-1)] mem Q := pm_phi1 (f := fun z0 => pm_Ex ro m_X10_raisedOf 50 [.ref 33, .int x1, .int x2, .int x3, .int x4, .int x5] [.int z0] mem Q) (if_pos (h)) kp33
    refine ex_many (pc' := 50) (ls' := [.ref 33, .int x1, .int x2, .int x3, .int x4, .int x5]) (st' := [.int (-1)]) (mem' := mem) hS hC 1 rfl ?_
    exact kp33a
  · have kp33b : pm_Ex ro m_X10_raisedOf 50 [.ref 33, .int x1, .int x2, .int x3, .int x4, .int x5] [.int x5] mem Q := pm_phi1 (f := fun z0 => pm_Ex ro m_X10_raisedOf 50 [.ref 33, .int x1, .int x2, .int x3, .int x4, .int x5] [.int z0] mem Q) (if_neg (h)) kp33
    refine ex_many (pc' := 50) (ls' := [.ref 33, .int x1, .int x2, .int x3, .int x4, .int x5]) (st' := [.int x5]) (mem' := mem) hS hC 2 rfl ?_
    exact kp33b

set_option maxRecDepth 20000 in
theorem bk_X10_raised_0 {ro : pm_RO} {Q : Option Value → pm_M → Prop} {mem : pm_M} {a1 a2 : Int32} (k : pm_Ex ro m_X10_isGood 0 [.ref 33, .int a1] [] mem (fun v m => pm_Ex ro m_X10_raised 5 [.ref 33, .int a1, .int a2] (v.toList ++ []) m Q)) : pm_Ex ro m_X10_raised 0 [.ref 33, .int a1, .int a2] [] mem Q := by
  have hS : pm_sig[m_X10_raised]? = some _ := rfl
  have hC : pm_cod[m_X10_raised]? = some _ := rfl
  refine ex_many (pc' := 2) (ls' := [.ref 33, .int a1, .int a2]) (st' := [.int a1, .ref 33]) (mem' := mem) hS hC 2 rfl ?_
  refine ex_call (y' := m_X10_isGood) (rest := []) (ent := [.ref 33, .int a1]) hS hC rfl rfl rfl rfl rfl rfl ?_
  exact k

set_option maxRecDepth 20000 in
theorem bk_X10_raised_5 {ro : pm_RO} {Q : Option Value → pm_M → Prop} {mem : pm_M} {x1 x2 s0 : Int32} (k : (s0 = 0 → Q (some (.int (-2))) mem) ∧ (¬ (s0 = 0) → (0 ≤ x2 ∧ x2 ≤ 999 → pm_Ex ro m_X10_raisedOf 0 [.ref 33, .int x1, .int x2, .null, .null, .null] [] mem (fun v m => pm_Ex ro m_X10_raised 26 [.ref 33, .int x1, .int x2] (v.toList ++ []) m Q)) ∧ (¬ (0 ≤ x2 ∧ x2 ≤ 999) → Q (some (.int (-2))) mem))) : pm_Ex ro m_X10_raised 5 [.ref 33, .int x1, .int x2] [.int s0] mem Q := by
  have hS : pm_sig[m_X10_raised]? = some _ := rfl
  have hC : pm_cod[m_X10_raised]? = some _ := rfl
  refine ex_br (P := s0 = 0) (a := 29) (b := 8) (ls' := [.ref 33, .int x1, .int x2]) (st' := []) (mem' := mem) hS hC rfl (fun h => ?_) (fun h => ?_)
  · replace k := k.1 (h)
    refine ex_many (pc' := 31) (ls' := [.ref 33, .int x1, .int x2]) (st' := [.int (-2)]) (mem' := mem) hS hC 1 rfl ?_
    exact ex_ret (v := (some (.int (-2)))) hS hC rfl rfl rfl k
  · replace k := k.2 (h)
    refine ex_many (pc' := 14) (ls' := [.ref 33, .int x1, .int x2]) (st' := [.long 999, .long 0, .long x2.toInt64]) (mem' := mem) hS hC 4 rfl ?_
    refine ex_call (y' := m_X10_in) (rest := []) (ent := [.long x2.toInt64, .null, .long 0, .null, .long 999, .null]) hS hC rfl rfl rfl rfl rfl rfl ?_
    refine sp_in32 (v := x2) (lo := 0) (hi := 999) (by decide) (by decide) ?_
    show pm_Ex ro m_X10_raised 17 [.ref 33, .int x1, .int x2] [.int (zb (0 ≤ x2 ∧ x2 ≤ 999))] mem Q
    refine ex_br (P := (zb (0 ≤ x2 ∧ x2 ≤ 999)) = 0) (a := 29) (b := 20) (ls' := [.ref 33, .int x1, .int x2]) (st' := []) (mem' := mem) hS hC rfl (fun h => ?_) (fun h => ?_)
    · replace k := k.2 (zb0 h)
      refine ex_many (pc' := 31) (ls' := [.ref 33, .int x1, .int x2]) (st' := [.int (-2)]) (mem' := mem) hS hC 1 rfl ?_
      exact ex_ret (v := (some (.int (-2)))) hS hC rfl rfl rfl k
    · replace k := k.1 (zb1 h)
      refine ex_many (pc' := 23) (ls' := [.ref 33, .int x1, .int x2]) (st' := [.int x2, .int x1, .ref 33]) (mem' := mem) hS hC 3 rfl ?_
      refine ex_call (y' := m_X10_raisedOf) (rest := []) (ent := [.ref 33, .int x1, .int x2, .null, .null, .null]) hS hC rfl rfl rfl rfl rfl rfl ?_
      exact k

set_option maxRecDepth 20000 in
theorem bk_X10_raised_26 {ro : pm_RO} {Q : Option Value → pm_M → Prop} {mem : pm_M} {x1 x2 s0 : Int32} (k : Q (some (.int s0)) mem) : pm_Ex ro m_X10_raised 26 [.ref 33, .int x1, .int x2] [.int s0] mem Q := by
  have hS : pm_sig[m_X10_raised]? = some _ := rfl
  have hC : pm_cod[m_X10_raised]? = some _ := rfl
  refine ex_many (pc' := 31) (ls' := [.ref 33, .int x1, .int x2]) (st' := [.int s0]) (mem' := mem) hS hC 1 rfl ?_
  exact ex_ret (v := (some (.int s0))) hS hC rfl rfl rfl k

set_option maxRecDepth 20000 in
theorem bk_X10_roundsOf_0 {ro : pm_RO} {Q : Option Value → pm_M → Prop} {mem : pm_M} {a1 a2 a3 : Int32} (k : pm_Ex ro m_X10_paidFor 0 [.ref 33, .int a2, .null, .null, .null, .null] [] mem (fun v m => pm_Ex ro m_X10_roundsOf 5 [.ref 33, .int a1, .int a2, .int a3, .null, .null, .null, .null, .null] (v.toList ++ []) m Q)) : pm_Ex ro m_X10_roundsOf 0 [.ref 33, .int a1, .int a2, .int a3, .null, .null, .null, .null, .null] [] mem Q := by
  have hS : pm_sig[m_X10_roundsOf]? = some _ := rfl
  have hC : pm_cod[m_X10_roundsOf]? = some _ := rfl
  refine ex_many (pc' := 2) (ls' := [.ref 33, .int a1, .int a2, .int a3, .null, .null, .null, .null, .null]) (st' := [.int a2, .ref 33]) (mem' := mem) hS hC 2 rfl ?_
  refine ex_call (y' := m_X10_paidFor) (rest := []) (ent := [.ref 33, .int a2, .null, .null, .null, .null]) hS hC rfl rfl rfl rfl rfl rfl ?_
  exact k

set_option maxRecDepth 20000 in
theorem bk_X10_roundsOf_20 {ro : pm_RO} {Q : Option Value → pm_M → Prop} {mem : pm_M} {x1 x2 x3 x4 x5 x6 : Int32} (k : (200 ≤ x5 → (¬ x3 = 0 → (¬ x3 = 1 → Q (some (.int x6)) mem) ∧ (¬ (¬ x3 = 1) → (pm_inb x5 201 = true) ∧ (Q (some (.int (mem 45 x5.toNatClampNeg))) mem))) ∧ (¬ (¬ x3 = 0) → Q (some (.int x5)) mem)) ∧ (¬ (200 ≤ x5) → (pm_inb x5 201 = true) ∧ (((mem 45 x5.toNatClampNeg) < x4 → (¬ x3 = 0 → (¬ x3 = 1 → Q (some (.int x6)) mem) ∧ (¬ (¬ x3 = 1) → (pm_inb x5 201 = true) ∧ (Q (some (.int (mem 45 x5.toNatClampNeg))) mem))) ∧ (¬ (¬ x3 = 0) → Q (some (.int x5)) mem)) ∧ (¬ ((mem 45 x5.toNatClampNeg) < x4) → (pm_inb x5 201 = true) ∧ (pm_Ex ro m_X10_paidFor 0 [.ref 33, .int ((mem 45 x5.toNatClampNeg) - x4), .null, .null, .null, .null] [] mem (fun v m => pm_Ex ro m_X10_roundsOf 54 [.ref 33, .int x1, .int x2, .int x3, .int x4, .int x5, .int x6, .null, .null] (v.toList ++ []) m Q)))))) : pm_Ex ro m_X10_roundsOf 20 [.ref 33, .int x1, .int x2, .int x3, .int x4, .int x5, .int x6, .null, .null] [] mem Q := by
  have hS : pm_sig[m_X10_roundsOf]? = some _ := rfl
  have hC : pm_cod[m_X10_roundsOf]? = some _ := rfl
  refine ex_many (pc' := 25) (ls' := [.ref 33, .int x1, .int x2, .int x3, .int x4, .int x5, .int x6, .null, .null]) (st' := [.int 200, .int x5]) (mem' := mem) hS hC 2 rfl ?_
  refine ex_br (P := 200 ≤ x5) (a := 115) (b := 28) (ls' := [.ref 33, .int x1, .int x2, .int x3, .int x4, .int x5, .int x6, .null, .null]) (st' := []) (mem' := mem) hS hC rfl (fun h => ?_) (fun h => ?_)
  · replace k := k.1 (h)
    refine ex_many (pc' := 116) (ls' := [.ref 33, .int x1, .int x2, .int x3, .int x4, .int x5, .int x6, .null, .null]) (st' := [.int x3]) (mem' := mem) hS hC 1 rfl ?_
    refine ex_br (P := ¬ x3 = 0) (a := 124) (b := 119) (ls' := [.ref 33, .int x1, .int x2, .int x3, .int x4, .int x5, .int x6, .null, .null]) (st' := []) (mem' := mem) hS hC rfl (fun h => ?_) (fun h => ?_)
    · replace k := k.1 (h)
      refine ex_many (pc' := 126) (ls' := [.ref 33, .int x1, .int x2, .int x3, .int x4, .int x5, .int x6, .null, .null]) (st' := [.int 1, .int x3]) (mem' := mem) hS hC 2 rfl ?_
      refine ex_br (P := ¬ x3 = 1) (a := 139) (b := 129) (ls' := [.ref 33, .int x1, .int x2, .int x3, .int x4, .int x5, .int x6, .null, .null]) (st' := []) (mem' := mem) hS hC rfl (fun h => ?_) (fun h => ?_)
      · replace k := k.1 (h)
        refine ex_many (pc' := 141) (ls' := [.ref 33, .int x1, .int x2, .int x3, .int x4, .int x5, .int x6, .null, .null]) (st' := [.int x6]) (mem' := mem) hS hC 1 rfl ?_
        exact ex_ret (v := (some (.int x6))) hS hC rfl rfl rfl k
      · replace k := k.2 (h)
        refine ex_many (pc' := 135) (ls' := [.ref 33, .int x1, .int x2, .int x3, .int x4, .int x5, .int x6, .null, .null]) (st' := [.int x5, .ref 45]) (mem' := mem) hS hC 3 rfl ?_
        refine ex_grd (b := pm_inb x5 201) (pc' := 136) (ls' := [.ref 33, .int x1, .int x2, .int x3, .int x4, .int x5, .int x6, .null, .null]) (st' := [.int (mem 45 x5.toNatClampNeg)]) (mem' := mem) hS hC rfl k.1 ?_
        replace k := k.2
        refine ex_many (pc' := 141) (ls' := [.ref 33, .int x1, .int x2, .int x3, .int x4, .int x5, .int x6, .null, .null]) (st' := [.int (mem 45 x5.toNatClampNeg)]) (mem' := mem) hS hC 1 rfl ?_
        exact ex_ret (v := (some (.int (mem 45 x5.toNatClampNeg)))) hS hC rfl rfl rfl k
    · replace k := k.2 (h)
      refine ex_many (pc' := 141) (ls' := [.ref 33, .int x1, .int x2, .int x3, .int x4, .int x5, .int x6, .null, .null]) (st' := [.int x5]) (mem' := mem) hS hC 2 rfl ?_
      exact ex_ret (v := (some (.int x5))) hS hC rfl rfl rfl k
  · replace k := k.2 (h)
    refine ex_many (pc' := 36) (ls' := [.ref 33, .int x1, .int x2, .int x3, .int x4, .int x5, .int x6, .null, .null]) (st' := [.int x5, .ref 45, .int x4]) (mem' := mem) hS hC 4 rfl ?_
    refine ex_grd (b := pm_inb x5 201) (pc' := 37) (ls' := [.ref 33, .int x1, .int x2, .int x3, .int x4, .int x5, .int x6, .null, .null]) (st' := [.int (mem 45 x5.toNatClampNeg), .int x4]) (mem' := mem) hS hC rfl k.1 ?_
    replace k := k.2
    refine ex_br (P := (mem 45 x5.toNatClampNeg) < x4) (a := 115) (b := 40) (ls' := [.ref 33, .int x1, .int x2, .int x3, .int x4, .int x5, .int x6, .null, .null]) (st' := []) (mem' := mem) hS hC rfl (fun h => ?_) (fun h => ?_)
    · replace k := k.1 (h)
      refine ex_many (pc' := 116) (ls' := [.ref 33, .int x1, .int x2, .int x3, .int x4, .int x5, .int x6, .null, .null]) (st' := [.int x3]) (mem' := mem) hS hC 1 rfl ?_
      refine ex_br (P := ¬ x3 = 0) (a := 124) (b := 119) (ls' := [.ref 33, .int x1, .int x2, .int x3, .int x4, .int x5, .int x6, .null, .null]) (st' := []) (mem' := mem) hS hC rfl (fun h => ?_) (fun h => ?_)
      · replace k := k.1 (h)
        refine ex_many (pc' := 126) (ls' := [.ref 33, .int x1, .int x2, .int x3, .int x4, .int x5, .int x6, .null, .null]) (st' := [.int 1, .int x3]) (mem' := mem) hS hC 2 rfl ?_
        refine ex_br (P := ¬ x3 = 1) (a := 139) (b := 129) (ls' := [.ref 33, .int x1, .int x2, .int x3, .int x4, .int x5, .int x6, .null, .null]) (st' := []) (mem' := mem) hS hC rfl (fun h => ?_) (fun h => ?_)
        · replace k := k.1 (h)
          refine ex_many (pc' := 141) (ls' := [.ref 33, .int x1, .int x2, .int x3, .int x4, .int x5, .int x6, .null, .null]) (st' := [.int x6]) (mem' := mem) hS hC 1 rfl ?_
          exact ex_ret (v := (some (.int x6))) hS hC rfl rfl rfl k
        · replace k := k.2 (h)
          refine ex_many (pc' := 135) (ls' := [.ref 33, .int x1, .int x2, .int x3, .int x4, .int x5, .int x6, .null, .null]) (st' := [.int x5, .ref 45]) (mem' := mem) hS hC 3 rfl ?_
          refine ex_grd (b := pm_inb x5 201) (pc' := 136) (ls' := [.ref 33, .int x1, .int x2, .int x3, .int x4, .int x5, .int x6, .null, .null]) (st' := [.int (mem 45 x5.toNatClampNeg)]) (mem' := mem) hS hC rfl k.1 ?_
          replace k := k.2
          refine ex_many (pc' := 141) (ls' := [.ref 33, .int x1, .int x2, .int x3, .int x4, .int x5, .int x6, .null, .null]) (st' := [.int (mem 45 x5.toNatClampNeg)]) (mem' := mem) hS hC 1 rfl ?_
          exact ex_ret (v := (some (.int (mem 45 x5.toNatClampNeg)))) hS hC rfl rfl rfl k
      · replace k := k.2 (h)
        refine ex_many (pc' := 141) (ls' := [.ref 33, .int x1, .int x2, .int x3, .int x4, .int x5, .int x6, .null, .null]) (st' := [.int x5]) (mem' := mem) hS hC 2 rfl ?_
        exact ex_ret (v := (some (.int x5))) hS hC rfl rfl rfl k
    · replace k := k.2 (h)
      refine ex_many (pc' := 47) (ls' := [.ref 33, .int x1, .int x2, .int x3, .int x4, .int x5, .int x6, .null, .null]) (st' := [.int x5, .ref 45, .ref 33]) (mem' := mem) hS hC 4 rfl ?_
      refine ex_grd (b := pm_inb x5 201) (pc' := 48) (ls' := [.ref 33, .int x1, .int x2, .int x3, .int x4, .int x5, .int x6, .null, .null]) (st' := [.int (mem 45 x5.toNatClampNeg), .ref 33]) (mem' := mem) hS hC rfl k.1 ?_
      replace k := k.2
      refine ex_many (pc' := 51) (ls' := [.ref 33, .int x1, .int x2, .int x3, .int x4, .int x5, .int x6, .null, .null]) (st' := [.int ((mem 45 x5.toNatClampNeg) - x4), .ref 33]) (mem' := mem) hS hC 2 rfl ?_
      refine ex_call (y' := m_X10_paidFor) (rest := []) (ent := [.ref 33, .int ((mem 45 x5.toNatClampNeg) - x4), .null, .null, .null, .null]) hS hC rfl rfl rfl rfl rfl rfl ?_
      exact k

set_option maxRecDepth 20000 in
theorem bk_X10_roundsOf_59 {ro : pm_RO} {Q : Option Value → pm_M → Prop} {mem : pm_M} {x1 x2 x3 x4 x5 x6 x7 x8 : Int32} (k : (x5 < x8 → (pm_inb (x5 + 1) 201 = true) ∧ (pm_Ex ro m_X10_roundsOf 20 [.ref 33, .int x1, .int x2, .int x3, .int x4, .int (x5 + 1), .int x6, .int x7, .int x8] [] (pm_up mem 45 ((x5 + 1).toNatClampNeg) x7) Q)) ∧ (¬ (x5 < x8) → (¬ x6 = (-1) → (pm_inb (x5 + 1) 201 = true) ∧ (pm_Ex ro m_X10_roundsOf 20 [.ref 33, .int x1, .int x2, .int x3, .int x4, .int (x5 + 1), .int x6, .int x7, .int x8] [] (pm_up mem 45 ((x5 + 1).toNatClampNeg) x7) Q)) ∧ (¬ (¬ x6 = (-1)) → (pm_inb x8 201 = true) ∧ (pm_Ex ro m_X10_roundsOf 59 [.ref 33, .int x1, .int x2, .int x3, .int x4, .int x5, .int (if ¬ (mem 45 x8.toNatClampNeg) = x7 then -1 else x5 + 1 : Int32), .int x7, .int (x8 + 1)] [] mem Q)))) : pm_Ex ro m_X10_roundsOf 59 [.ref 33, .int x1, .int x2, .int x3, .int x4, .int x5, .int x6, .int x7, .int x8] [] mem Q := by
  have hS : pm_sig[m_X10_roundsOf]? = some _ := rfl
  have hC : pm_cod[m_X10_roundsOf]? = some _ := rfl
  refine ex_many (pc' := 63) (ls' := [.ref 33, .int x1, .int x2, .int x3, .int x4, .int x5, .int x6, .int x7, .int x8]) (st' := [.int x5, .int x8]) (mem' := mem) hS hC 2 rfl ?_
  refine ex_br (P := x5 < x8) (a := 100) (b := 66) (ls' := [.ref 33, .int x1, .int x2, .int x3, .int x4, .int x5, .int x6, .int x7, .int x8]) (st' := []) (mem' := mem) hS hC rfl (fun h => ?_) (fun h => ?_)
  · replace k := k.1 (h)
    refine ex_many (pc' := 111) (ls' := [.ref 33, .int x1, .int x2, .int x3, .int x4, .int (x5 + 1), .int x6, .int x7, .int x8]) (st' := [.int x7, .int (x5 + 1), .ref 45]) (mem' := mem) hS hC 5 rfl ?_
    refine ex_grd (b := pm_inb (x5 + 1) 201) (pc' := 112) (ls' := [.ref 33, .int x1, .int x2, .int x3, .int x4, .int (x5 + 1), .int x6, .int x7, .int x8]) (st' := []) (mem' := pm_up mem 45 ((x5 + 1).toNatClampNeg) x7) hS hC rfl k.1 ?_
    replace k := k.2
    refine ex_many (pc' := 20) (ls' := [.ref 33, .int x1, .int x2, .int x3, .int x4, .int (x5 + 1), .int x6, .int x7, .int x8]) (st' := []) (mem' := pm_up mem 45 ((x5 + 1).toNatClampNeg) x7) hS hC 1 rfl ?_
    exact k
  · replace k := k.2 (h)
    refine ex_many (pc' := 69) (ls' := [.ref 33, .int x1, .int x2, .int x3, .int x4, .int x5, .int x6, .int x7, .int x8]) (st' := [.int (-1), .int x6]) (mem' := mem) hS hC 2 rfl ?_
    refine ex_br (P := ¬ x6 = (-1)) (a := 100) (b := 72) (ls' := [.ref 33, .int x1, .int x2, .int x3, .int x4, .int x5, .int x6, .int x7, .int x8]) (st' := []) (mem' := mem) hS hC rfl (fun h => ?_) (fun h => ?_)
    · replace k := k.1 (h)
      refine ex_many (pc' := 111) (ls' := [.ref 33, .int x1, .int x2, .int x3, .int x4, .int (x5 + 1), .int x6, .int x7, .int x8]) (st' := [.int x7, .int (x5 + 1), .ref 45]) (mem' := mem) hS hC 5 rfl ?_
      refine ex_grd (b := pm_inb (x5 + 1) 201) (pc' := 112) (ls' := [.ref 33, .int x1, .int x2, .int x3, .int x4, .int (x5 + 1), .int x6, .int x7, .int x8]) (st' := []) (mem' := pm_up mem 45 ((x5 + 1).toNatClampNeg) x7) hS hC rfl k.1 ?_
      replace k := k.2
      refine ex_many (pc' := 20) (ls' := [.ref 33, .int x1, .int x2, .int x3, .int x4, .int (x5 + 1), .int x6, .int x7, .int x8]) (st' := []) (mem' := pm_up mem 45 ((x5 + 1).toNatClampNeg) x7) hS hC 1 rfl ?_
      exact k
    · replace k := k.2 (h)
      refine ex_many (pc' := 78) (ls' := [.ref 33, .int x1, .int x2, .int x3, .int x4, .int x5, .int x6, .int x7, .int x8]) (st' := [.int x8, .ref 45]) (mem' := mem) hS hC 3 rfl ?_
      refine ex_grd (b := pm_inb x8 201) (pc' := 79) (ls' := [.ref 33, .int x1, .int x2, .int x3, .int x4, .int x5, .int x6, .int x7, .int x8]) (st' := [.int (mem 45 x8.toNatClampNeg)]) (mem' := mem) hS hC rfl k.1 ?_
      replace k := k.2
      refine ex_many (pc' := 81) (ls' := [.ref 33, .int x1, .int x2, .int x3, .int x4, .int x5, .int x6, .int x7, .int x8]) (st' := [.int x7, .int (mem 45 x8.toNatClampNeg)]) (mem' := mem) hS hC 1 rfl ?_
      have kp34 : pm_Ex ro m_X10_roundsOf 92 [.ref 33, .int x1, .int x2, .int x3, .int x4, .int x5, .int x6, .int x7, .int x8] [.int (if ¬ (mem 45 x8.toNatClampNeg) = x7 then -1 else x5 + 1 : Int32)] mem Q := by
        refine ex_many (pc' := 59) (ls' := [.ref 33, .int x1, .int x2, .int x3, .int x4, .int x5, .int (if ¬ (mem 45 x8.toNatClampNeg) = x7 then -1 else x5 + 1 : Int32), .int x7, .int (x8 + 1)]) (st' := []) (mem' := mem) hS hC 3 rfl ?_
        exact k
      refine ex_br (P := ¬ (mem 45 x8.toNatClampNeg) = x7) (a := 91) (b := 84) (ls' := [.ref 33, .int x1, .int x2, .int x3, .int x4, .int x5, .int x6, .int x7, .int x8]) (st' := []) (mem' := mem) hS hC rfl (fun h => ?_) (fun h => ?_)
      · have kp34a : pm_Ex ro m_X10_roundsOf 92 [.ref 33, .int x1, .int x2, .int x3, .int x4, .int x5, .int x6, .int x7, .int x8] [.int (-1)] mem Q := pm_phi1 (f := fun z0 => pm_Ex ro m_X10_roundsOf 92 [.ref 33, .int x1, .int x2, .int x3, .int x4, .int x5, .int x6, .int x7, .int x8] [.int z0] mem Q) (if_pos (h)) kp34
        refine ex_many (pc' := 92) (ls' := [.ref 33, .int x1, .int x2, .int x3, .int x4, .int x5, .int x6, .int x7, .int x8]) (st' := [.int (-1)]) (mem' := mem) hS hC 1 rfl ?_
        exact kp34a
      · have kp34b : pm_Ex ro m_X10_roundsOf 92 [.ref 33, .int x1, .int x2, .int x3, .int x4, .int x5, .int x6, .int x7, .int x8] [.int (x5 + 1)] mem Q := pm_phi1 (f := fun z0 => pm_Ex ro m_X10_roundsOf 92 [.ref 33, .int x1, .int x2, .int x3, .int x4, .int x5, .int x6, .int x7, .int x8] [.int z0] mem Q) (if_neg (h)) kp34
        refine ex_many (pc' := 92) (ls' := [.ref 33, .int x1, .int x2, .int x3, .int x4, .int x5, .int x6, .int x7, .int x8]) (st' := [.int (x5 + 1)]) (mem' := mem) hS hC 4 rfl ?_
        exact kp34b

set_option maxRecDepth 20000 in
theorem bk_X10_roundsOf_5 {ro : pm_RO} {Q : Option Value → pm_M → Prop} {mem : pm_M} {x1 x2 x3 s0 : Int32} (k : pm_Ex ro m_X10_roundsOf 20 [.ref 33, .int x1, .int x2, .int x3, .int s0, .int 0, .int (-1), .null, .null] [] (pm_up mem 45 0 x1) Q) : pm_Ex ro m_X10_roundsOf 5 [.ref 33, .int x1, .int x2, .int x3, .null, .null, .null, .null, .null] [.int s0] mem Q := by
  have hS : pm_sig[m_X10_roundsOf]? = some _ := rfl
  have hC : pm_cod[m_X10_roundsOf]? = some _ := rfl
  refine ex_many (pc' := 20) (ls' := [.ref 33, .int x1, .int x2, .int x3, .int s0, .int 0, .int (-1), .null, .null]) (st' := []) (mem' := pm_up mem 45 0 x1) hS hC 10 rfl ?_
  exact k

set_option maxRecDepth 20000 in
theorem bk_X10_roundsOf_54 {ro : pm_RO} {Q : Option Value → pm_M → Prop} {mem : pm_M} {x1 x2 x3 x4 x5 x6 s0 : Int32} (k : pm_Ex ro m_X10_roundsOf 59 [.ref 33, .int x1, .int x2, .int x3, .int x4, .int x5, .int x6, .int s0, .int 0] [] mem Q) : pm_Ex ro m_X10_roundsOf 54 [.ref 33, .int x1, .int x2, .int x3, .int x4, .int x5, .int x6, .null, .null] [.int s0] mem Q := by
  have hS : pm_sig[m_X10_roundsOf]? = some _ := rfl
  have hC : pm_cod[m_X10_roundsOf]? = some _ := rfl
  refine ex_many (pc' := 59) (ls' := [.ref 33, .int x1, .int x2, .int x3, .int x4, .int x5, .int x6, .int s0, .int 0]) (st' := []) (mem' := mem) hS hC 3 rfl ?_
  exact k

set_option maxRecDepth 20000 in
theorem bk_X10_rounds_0 {ro : pm_RO} {Q : Option Value → pm_M → Prop} {mem : pm_M} {a1 a2 a3 : Int32} (k : (0 ≤ a1 ∧ a1 ≤ 9999 → (0 ≤ a2 ∧ a2 ≤ 9999 → (0 ≤ a3 ∧ a3 ≤ 2 → pm_Ex ro m_X10_roundsOf 0 [.ref 33, .int a1, .int a2, .int a3, .null, .null, .null, .null, .null] [] mem (fun v m => pm_Ex ro m_X10_rounds 33 [.ref 33, .int a1, .int a2, .int a3] (v.toList ++ []) m Q)) ∧ (¬ (0 ≤ a3 ∧ a3 ≤ 2) → Q (some (.int (-2))) mem)) ∧ (¬ (0 ≤ a2 ∧ a2 ≤ 9999) → Q (some (.int (-2))) mem)) ∧ (¬ (0 ≤ a1 ∧ a1 ≤ 9999) → Q (some (.int (-2))) mem)) : pm_Ex ro m_X10_rounds 0 [.ref 33, .int a1, .int a2, .int a3] [] mem Q := by
  have hS : pm_sig[m_X10_rounds]? = some _ := rfl
  have hC : pm_cod[m_X10_rounds]? = some _ := rfl
  refine ex_many (pc' := 1) (ls' := [.ref 33, .int a1, .int a2, .int a3]) (st' := [.int a1]) (mem' := mem) hS hC 1 rfl ?_
  refine ex_call (y' := m_X10_isNumber) (rest := []) (ent := [.int a1]) hS hC rfl rfl rfl rfl rfl rfl ?_
  refine bk_X10_isNumber_0 ?_
  show pm_Ex ro m_X10_rounds 4 [.ref 33, .int a1, .int a2, .int a3] [.int (zb (0 ≤ a1 ∧ a1 ≤ 9999))] mem Q
  refine ex_br (P := (zb (0 ≤ a1 ∧ a1 ≤ 9999)) = 0) (a := 36) (b := 7) (ls' := [.ref 33, .int a1, .int a2, .int a3]) (st' := []) (mem' := mem) hS hC rfl (fun h => ?_) (fun h => ?_)
  · replace k := k.2 (zb0 h)
    refine ex_many (pc' := 38) (ls' := [.ref 33, .int a1, .int a2, .int a3]) (st' := [.int (-2)]) (mem' := mem) hS hC 1 rfl ?_
    exact ex_ret (v := (some (.int (-2)))) hS hC rfl rfl rfl k
  · replace k := k.1 (zb1 h)
    refine ex_many (pc' := 8) (ls' := [.ref 33, .int a1, .int a2, .int a3]) (st' := [.int a2]) (mem' := mem) hS hC 1 rfl ?_
    refine ex_call (y' := m_X10_isNumber) (rest := []) (ent := [.int a2]) hS hC rfl rfl rfl rfl rfl rfl ?_
    refine bk_X10_isNumber_0 ?_
    show pm_Ex ro m_X10_rounds 11 [.ref 33, .int a1, .int a2, .int a3] [.int (zb (0 ≤ a2 ∧ a2 ≤ 9999))] mem Q
    refine ex_br (P := (zb (0 ≤ a2 ∧ a2 ≤ 9999)) = 0) (a := 36) (b := 14) (ls' := [.ref 33, .int a1, .int a2, .int a3]) (st' := []) (mem' := mem) hS hC rfl (fun h => ?_) (fun h => ?_)
    · replace k := k.2 (zb0 h)
      refine ex_many (pc' := 38) (ls' := [.ref 33, .int a1, .int a2, .int a3]) (st' := [.int (-2)]) (mem' := mem) hS hC 1 rfl ?_
      exact ex_ret (v := (some (.int (-2)))) hS hC rfl rfl rfl k
    · replace k := k.1 (zb1 h)
      refine ex_many (pc' := 20) (ls' := [.ref 33, .int a1, .int a2, .int a3]) (st' := [.long 2, .long 0, .long a3.toInt64]) (mem' := mem) hS hC 4 rfl ?_
      refine ex_call (y' := m_X10_in) (rest := []) (ent := [.long a3.toInt64, .null, .long 0, .null, .long 2, .null]) hS hC rfl rfl rfl rfl rfl rfl ?_
      refine sp_in32 (v := a3) (lo := 0) (hi := 2) (by decide) (by decide) ?_
      show pm_Ex ro m_X10_rounds 23 [.ref 33, .int a1, .int a2, .int a3] [.int (zb (0 ≤ a3 ∧ a3 ≤ 2))] mem Q
      refine ex_br (P := (zb (0 ≤ a3 ∧ a3 ≤ 2)) = 0) (a := 36) (b := 26) (ls' := [.ref 33, .int a1, .int a2, .int a3]) (st' := []) (mem' := mem) hS hC rfl (fun h => ?_) (fun h => ?_)
      · replace k := k.2 (zb0 h)
        refine ex_many (pc' := 38) (ls' := [.ref 33, .int a1, .int a2, .int a3]) (st' := [.int (-2)]) (mem' := mem) hS hC 1 rfl ?_
        exact ex_ret (v := (some (.int (-2)))) hS hC rfl rfl rfl k
      · replace k := k.1 (zb1 h)
        refine ex_many (pc' := 30) (ls' := [.ref 33, .int a1, .int a2, .int a3]) (st' := [.int a3, .int a2, .int a1, .ref 33]) (mem' := mem) hS hC 4 rfl ?_
        refine ex_call (y' := m_X10_roundsOf) (rest := []) (ent := [.ref 33, .int a1, .int a2, .int a3, .null, .null, .null, .null, .null]) hS hC rfl rfl rfl rfl rfl rfl ?_
        exact k

set_option maxRecDepth 20000 in
theorem bk_X10_rounds_33 {ro : pm_RO} {Q : Option Value → pm_M → Prop} {mem : pm_M} {x1 x2 x3 s0 : Int32} (k : Q (some (.int s0)) mem) : pm_Ex ro m_X10_rounds 33 [.ref 33, .int x1, .int x2, .int x3] [.int s0] mem Q := by
  have hS : pm_sig[m_X10_rounds]? = some _ := rfl
  have hC : pm_cod[m_X10_rounds]? = some _ := rfl
  refine ex_many (pc' := 38) (ls' := [.ref 33, .int x1, .int x2, .int x3]) (st' := [.int s0]) (mem' := mem) hS hC 1 rfl ?_
  exact ex_ret (v := (some (.int s0))) hS hC rfl rfl rfl k

set_option maxRecDepth 20000 in
theorem bk_X10_figuresOf_0 {ro : pm_RO} {Q : Option Value → pm_M → Prop} {mem : pm_M} {a1 a2 : Int32} (k : pm_Ex ro m_X10_figuresOf 5 [.ref 33, .int a1, .int a2, .int 1, .int 1, .null, .null, .null, .null, .null, .null, .null] [] mem Q) : pm_Ex ro m_X10_figuresOf 0 [.ref 33, .int a1, .int a2, .null, .null, .null, .null, .null, .null, .null, .null, .null] [] mem Q := by
  have hS : pm_sig[m_X10_figuresOf]? = some _ := rfl
  have hC : pm_cod[m_X10_figuresOf]? = some _ := rfl
  refine ex_many (pc' := 5) (ls' := [.ref 33, .int a1, .int a2, .int 1, .int 1, .null, .null, .null, .null, .null, .null, .null]) (st' := []) (mem' := mem) hS hC 4 rfl ?_
  exact k

set_option maxRecDepth 20000 in
theorem bk_X10_figuresOf_5 {ro : pm_RO} {Q : Option Value → pm_M → Prop} {mem : pm_M} {x1 x2 x3 x4 : Int32} (k : (x1 ≤ x4 → pm_Ex ro m_X10_figuresOf 44 [.ref 33, .int x1, .int x2, .int x3, .int 0, .int 0, .int 0, .int x3, .int (-1), .int x3, .null, .null] [] mem Q) ∧ (¬ (x1 ≤ x4) → pm_Ex ro m_X10_figuresOf 5 [.ref 33, .int x1, .int x2, .int (x3 * (mem 41 0)), .int (x4 + 1), .null, .null, .null, .null, .null, .null, .null] [] mem Q)) : pm_Ex ro m_X10_figuresOf 5 [.ref 33, .int x1, .int x2, .int x3, .int x4, .null, .null, .null, .null, .null, .null, .null] [] mem Q := by
  have hS : pm_sig[m_X10_figuresOf]? = some _ := rfl
  have hC : pm_cod[m_X10_figuresOf]? = some _ := rfl
  refine ex_many (pc' := 8) (ls' := [.ref 33, .int x1, .int x2, .int x3, .int x4, .null, .null, .null, .null, .null, .null, .null]) (st' := [.int x1, .int x4]) (mem' := mem) hS hC 2 rfl ?_
  refine ex_br (P := x1 ≤ x4) (a := 26) (b := 11) (ls' := [.ref 33, .int x1, .int x2, .int x3, .int x4, .null, .null, .null, .null, .null, .null, .null]) (st' := []) (mem' := mem) hS hC rfl (fun h => ?_) (fun h => ?_)
  · replace k := k.1 (h)
    refine ex_many (pc' := 44) (ls' := [.ref 33, .int x1, .int x2, .int x3, .int 0, .int 0, .int 0, .int x3, .int (-1), .int x3, .null, .null]) (st' := []) (mem' := mem) hS hC 12 rfl ?_
    exact k
  · replace k := k.2 (h)
    refine ex_many (pc' := 5) (ls' := [.ref 33, .int x1, .int x2, .int (x3 * (mem 41 0)), .int (x4 + 1), .null, .null, .null, .null, .null, .null, .null]) (st' := []) (mem' := mem) hS hC 9 rfl ?_
    exact k

set_option maxRecDepth 20000 in
theorem bk_X10_figuresOf_44 {ro : pm_RO} {Q : Option Value → pm_M → Prop} {mem : pm_M} {x1 x2 x3 x4 x5 x6 x7 x8 x9 : Int32} (k : ((x3 * (mem 41 0)) ≤ x9 → Q (some (.int (if ¬ x2 = 0 then (if ¬ x2 = 1 then (if ¬ x2 = 2 then x7 else x6 : Int32) else x5 : Int32) else x4 : Int32))) mem) ∧ (¬ ((x3 * (mem 41 0)) ≤ x9) → pm_Ex ro m_X10_paidFor 0 [.ref 33, .int x9, .null, .null, .null, .null] [] mem (fun v m => pm_Ex ro m_X10_figuresOf 63 [.ref 33, .int x1, .int x2, .int x3, .int x4, .int x5, .int x6, .int x7, .int x8, .int x9, .null, .null] (v.toList ++ []) m Q))) : pm_Ex ro m_X10_figuresOf 44 [.ref 33, .int x1, .int x2, .int x3, .int x4, .int x5, .int x6, .int x7, .int x8, .int x9, .null, .null] [] mem Q := by
  have hS : pm_sig[m_X10_figuresOf]? = some _ := rfl
  have hC : pm_cod[m_X10_figuresOf]? = some _ := rfl
  refine ex_many (pc' := 54) (ls' := [.ref 33, .int x1, .int x2, .int x3, .int x4, .int x5, .int x6, .int x7, .int x8, .int x9, .null, .null]) (st' := [.int (x3 * (mem 41 0)), .int x9]) (mem' := mem) hS hC 7 rfl ?_
  refine ex_br (P := (x3 * (mem 41 0)) ≤ x9) (a := 166) (b := 57) (ls' := [.ref 33, .int x1, .int x2, .int x3, .int x4, .int x5, .int x6, .int x7, .int x8, .int x9, .null, .null]) (st' := []) (mem' := mem) hS hC rfl (fun h => ?_) (fun h => ?_)
  · replace k := k.1 (h)
    refine ex_many (pc' := 167) (ls' := [.ref 33, .int x1, .int x2, .int x3, .int x4, .int x5, .int x6, .int x7, .int x8, .int x9, .null, .null]) (st' := [.int x2]) (mem' := mem) hS hC 1 rfl ?_
    have kp37 : pm_Ex ro m_X10_figuresOf 197 [.ref 33, .int x1, .int x2, .int x3, .int x4, .int x5, .int x6, .int x7, .int x8, .int x9, .null, .null] [.int (if ¬ x2 = 0 then (if ¬ x2 = 1 then (if ¬ x2 = 2 then x7 else x6 : Int32) else x5 : Int32) else x4 : Int32)] mem Q := by
      exact ex_ret (v := (some (.int (if ¬ x2 = 0 then (if ¬ x2 = 1 then (if ¬ x2 = 2 then x7 else x6 : Int32) else x5 : Int32) else x4 : Int32)))) hS hC rfl rfl rfl k
    refine ex_br (P := ¬ x2 = 0) (a := 175) (b := 170) (ls' := [.ref 33, .int x1, .int x2, .int x3, .int x4, .int x5, .int x6, .int x7, .int x8, .int x9, .null, .null]) (st' := []) (mem' := mem) hS hC rfl (fun h => ?_) (fun h => ?_)
    · have kp37a : pm_Ex ro m_X10_figuresOf 197 [.ref 33, .int x1, .int x2, .int x3, .int x4, .int x5, .int x6, .int x7, .int x8, .int x9, .null, .null] [.int (if ¬ x2 = 1 then (if ¬ x2 = 2 then x7 else x6 : Int32) else x5 : Int32)] mem Q := pm_phi1 (f := fun z0 => pm_Ex ro m_X10_figuresOf 197 [.ref 33, .int x1, .int x2, .int x3, .int x4, .int x5, .int x6, .int x7, .int x8, .int x9, .null, .null] [.int z0] mem Q) (if_pos (h)) kp37
      have kp36 : pm_Ex ro m_X10_figuresOf 197 [.ref 33, .int x1, .int x2, .int x3, .int x4, .int x5, .int x6, .int x7, .int x8, .int x9, .null, .null] [.int (if ¬ x2 = 1 then (if ¬ x2 = 2 then x7 else x6 : Int32) else x5 : Int32)] mem Q := by
        exact kp37a
      refine ex_many (pc' := 177) (ls' := [.ref 33, .int x1, .int x2, .int x3, .int x4, .int x5, .int x6, .int x7, .int x8, .int x9, .null, .null]) (st' := [.int 1, .int x2]) (mem' := mem) hS hC 2 rfl ?_
      refine ex_br (P := ¬ x2 = 1) (a := 185) (b := 180) (ls' := [.ref 33, .int x1, .int x2, .int x3, .int x4, .int x5, .int x6, .int x7, .int x8, .int x9, .null, .null]) (st' := []) (mem' := mem) hS hC rfl (fun h => ?_) (fun h => ?_)
      · have kp36a : pm_Ex ro m_X10_figuresOf 197 [.ref 33, .int x1, .int x2, .int x3, .int x4, .int x5, .int x6, .int x7, .int x8, .int x9, .null, .null] [.int (if ¬ x2 = 2 then x7 else x6 : Int32)] mem Q := pm_phi1 (f := fun z0 => pm_Ex ro m_X10_figuresOf 197 [.ref 33, .int x1, .int x2, .int x3, .int x4, .int x5, .int x6, .int x7, .int x8, .int x9, .null, .null] [.int z0] mem Q) (if_pos (h)) kp36
        have kp35 : pm_Ex ro m_X10_figuresOf 197 [.ref 33, .int x1, .int x2, .int x3, .int x4, .int x5, .int x6, .int x7, .int x8, .int x9, .null, .null] [.int (if ¬ x2 = 2 then x7 else x6 : Int32)] mem Q := by
          exact kp36a
        refine ex_many (pc' := 187) (ls' := [.ref 33, .int x1, .int x2, .int x3, .int x4, .int x5, .int x6, .int x7, .int x8, .int x9, .null, .null]) (st' := [.int 2, .int x2]) (mem' := mem) hS hC 2 rfl ?_
        refine ex_br (P := ¬ x2 = 2) (a := 195) (b := 190) (ls' := [.ref 33, .int x1, .int x2, .int x3, .int x4, .int x5, .int x6, .int x7, .int x8, .int x9, .null, .null]) (st' := []) (mem' := mem) hS hC rfl (fun h => ?_) (fun h => ?_)
        · have kp35a : pm_Ex ro m_X10_figuresOf 197 [.ref 33, .int x1, .int x2, .int x3, .int x4, .int x5, .int x6, .int x7, .int x8, .int x9, .null, .null] [.int x7] mem Q := pm_phi1 (f := fun z0 => pm_Ex ro m_X10_figuresOf 197 [.ref 33, .int x1, .int x2, .int x3, .int x4, .int x5, .int x6, .int x7, .int x8, .int x9, .null, .null] [.int z0] mem Q) (if_pos (h)) kp35
          refine ex_many (pc' := 197) (ls' := [.ref 33, .int x1, .int x2, .int x3, .int x4, .int x5, .int x6, .int x7, .int x8, .int x9, .null, .null]) (st' := [.int x7]) (mem' := mem) hS hC 1 rfl ?_
          exact kp35a
        · have kp35b : pm_Ex ro m_X10_figuresOf 197 [.ref 33, .int x1, .int x2, .int x3, .int x4, .int x5, .int x6, .int x7, .int x8, .int x9, .null, .null] [.int x6] mem Q := pm_phi1 (f := fun z0 => pm_Ex ro m_X10_figuresOf 197 [.ref 33, .int x1, .int x2, .int x3, .int x4, .int x5, .int x6, .int x7, .int x8, .int x9, .null, .null] [.int z0] mem Q) (if_neg (h)) kp35
          refine ex_many (pc' := 197) (ls' := [.ref 33, .int x1, .int x2, .int x3, .int x4, .int x5, .int x6, .int x7, .int x8, .int x9, .null, .null]) (st' := [.int x6]) (mem' := mem) hS hC 2 rfl ?_
          exact kp35b
      · have kp36b : pm_Ex ro m_X10_figuresOf 197 [.ref 33, .int x1, .int x2, .int x3, .int x4, .int x5, .int x6, .int x7, .int x8, .int x9, .null, .null] [.int x5] mem Q := pm_phi1 (f := fun z0 => pm_Ex ro m_X10_figuresOf 197 [.ref 33, .int x1, .int x2, .int x3, .int x4, .int x5, .int x6, .int x7, .int x8, .int x9, .null, .null] [.int z0] mem Q) (if_neg (h)) kp36
        refine ex_many (pc' := 197) (ls' := [.ref 33, .int x1, .int x2, .int x3, .int x4, .int x5, .int x6, .int x7, .int x8, .int x9, .null, .null]) (st' := [.int x5]) (mem' := mem) hS hC 2 rfl ?_
        exact kp36b
    · have kp37b : pm_Ex ro m_X10_figuresOf 197 [.ref 33, .int x1, .int x2, .int x3, .int x4, .int x5, .int x6, .int x7, .int x8, .int x9, .null, .null] [.int x4] mem Q := pm_phi1 (f := fun z0 => pm_Ex ro m_X10_figuresOf 197 [.ref 33, .int x1, .int x2, .int x3, .int x4, .int x5, .int x6, .int x7, .int x8, .int x9, .null, .null] [.int z0] mem Q) (if_neg (h)) kp37
      refine ex_many (pc' := 197) (ls' := [.ref 33, .int x1, .int x2, .int x3, .int x4, .int x5, .int x6, .int x7, .int x8, .int x9, .null, .null]) (st' := [.int x4]) (mem' := mem) hS hC 2 rfl ?_
      exact kp37b
  · replace k := k.2 (h)
    refine ex_many (pc' := 60) (ls' := [.ref 33, .int x1, .int x2, .int x3, .int x4, .int x5, .int x6, .int x7, .int x8, .int x9, .null, .null]) (st' := [.int x9, .ref 33]) (mem' := mem) hS hC 2 rfl ?_
    refine ex_call (y' := m_X10_paidFor) (rest := []) (ent := [.ref 33, .int x9, .null, .null, .null, .null]) hS hC rfl rfl rfl rfl rfl rfl ?_
    exact k

set_option maxRecDepth 20000 in
theorem bk_X10_figuresOf_63 {ro : pm_RO} {Q : Option Value → pm_M → Prop} {mem : pm_M} {x1 x2 x3 x4 x5 x6 x7 x8 x9 s0 : Int32} (k : pm_Ex ro m_X10_figuresOf 44 [.ref 33, .int x1, .int x2, .int x3, .int (x4 + (zb (¬ (¬ (s0 - x9) = 0)))), .int (x5 + (zb (¬ (0 ≤ (s0 - x9))))), .int (x6 + (zb (¬ ((s0 - x9) ≤ 0)))), .int (if (if 0 ≤ (s0 - x9) then s0 - x9 else -(s0 - x9) : Int32) ≤ x8 then x7 else x9 : Int32), .int (if (if 0 ≤ (s0 - x9) then s0 - x9 else -(s0 - x9) : Int32) ≤ x8 then x8 else (if 0 ≤ (s0 - x9) then s0 - x9 else -(s0 - x9) : Int32) : Int32), .int (x9 + 1), .int (s0 - x9), .int (if 0 ≤ (s0 - x9) then s0 - x9 else -(s0 - x9) : Int32)] [] mem Q) : pm_Ex ro m_X10_figuresOf 63 [.ref 33, .int x1, .int x2, .int x3, .int x4, .int x5, .int x6, .int x7, .int x8, .int x9, .null, .null] [.int s0] mem Q := by
  have hS : pm_sig[m_X10_figuresOf]? = some _ := rfl
  have hC : pm_cod[m_X10_figuresOf]? = some _ := rfl
  refine ex_many (pc' := 72) (ls' := [.ref 33, .int x1, .int x2, .int x3, .int x4, .int x5, .int x6, .int x7, .int x8, .int x9, .int (s0 - x9), .null]) (st' := [.int (s0 - x9), .int x4]) (mem' := mem) hS hC 5 rfl ?_
  have kp43 : pm_Ex ro m_X10_figuresOf 80 [.ref 33, .int x1, .int x2, .int x3, .int x4, .int x5, .int x6, .int x7, .int x8, .int x9, .int (s0 - x9), .null] [.int (zb (¬ (¬ (s0 - x9) = 0))), .int x4] mem Q := by
    refine ex_many (pc' := 87) (ls' := [.ref 33, .int x1, .int x2, .int x3, .int (x4 + (zb (¬ (¬ (s0 - x9) = 0)))), .int x5, .int x6, .int x7, .int x8, .int x9, .int (s0 - x9), .null]) (st' := [.int (s0 - x9), .int x5]) (mem' := mem) hS hC 4 rfl ?_
    have kp42 : pm_Ex ro m_X10_figuresOf 95 [.ref 33, .int x1, .int x2, .int x3, .int (x4 + (zb (¬ (¬ (s0 - x9) = 0)))), .int x5, .int x6, .int x7, .int x8, .int x9, .int (s0 - x9), .null] [.int (zb (¬ (0 ≤ (s0 - x9)))), .int x5] mem Q := by
      refine ex_many (pc' := 102) (ls' := [.ref 33, .int x1, .int x2, .int x3, .int (x4 + (zb (¬ (¬ (s0 - x9) = 0)))), .int (x5 + (zb (¬ (0 ≤ (s0 - x9))))), .int x6, .int x7, .int x8, .int x9, .int (s0 - x9), .null]) (st' := [.int (s0 - x9), .int x6]) (mem' := mem) hS hC 4 rfl ?_
      have kp41 : pm_Ex ro m_X10_figuresOf 110 [.ref 33, .int x1, .int x2, .int x3, .int (x4 + (zb (¬ (¬ (s0 - x9) = 0)))), .int (x5 + (zb (¬ (0 ≤ (s0 - x9))))), .int x6, .int x7, .int x8, .int x9, .int (s0 - x9), .null] [.int (zb (¬ ((s0 - x9) ≤ 0))), .int x6] mem Q := by
        refine ex_many (pc' := 115) (ls' := [.ref 33, .int x1, .int x2, .int x3, .int (x4 + (zb (¬ (¬ (s0 - x9) = 0)))), .int (x5 + (zb (¬ (0 ≤ (s0 - x9))))), .int (x6 + (zb (¬ ((s0 - x9) ≤ 0)))), .int x7, .int x8, .int x9, .int (s0 - x9), .null]) (st' := [.int (s0 - x9)]) (mem' := mem) hS hC 3 rfl ?_
        have kp40 : pm_Ex ro m_X10_figuresOf 126 [.ref 33, .int x1, .int x2, .int x3, .int (x4 + (zb (¬ (¬ (s0 - x9) = 0)))), .int (x5 + (zb (¬ (0 ≤ (s0 - x9))))), .int (x6 + (zb (¬ ((s0 - x9) ≤ 0)))), .int x7, .int x8, .int x9, .int (s0 - x9), .null] [.int (if 0 ≤ (s0 - x9) then s0 - x9 else -(s0 - x9) : Int32)] mem Q := by
          refine ex_many (pc' := 132) (ls' := [.ref 33, .int x1, .int x2, .int x3, .int (x4 + (zb (¬ (¬ (s0 - x9) = 0)))), .int (x5 + (zb (¬ (0 ≤ (s0 - x9))))), .int (x6 + (zb (¬ ((s0 - x9) ≤ 0)))), .int x7, .int x8, .int x9, .int (s0 - x9), .int (if 0 ≤ (s0 - x9) then s0 - x9 else -(s0 - x9) : Int32)]) (st' := [.int x8, .int (if 0 ≤ (s0 - x9) then s0 - x9 else -(s0 - x9) : Int32)]) (mem' := mem) hS hC 3 rfl ?_
          have kp39 : pm_Ex ro m_X10_figuresOf 142 [.ref 33, .int x1, .int x2, .int x3, .int (x4 + (zb (¬ (¬ (s0 - x9) = 0)))), .int (x5 + (zb (¬ (0 ≤ (s0 - x9))))), .int (x6 + (zb (¬ ((s0 - x9) ≤ 0)))), .int x7, .int x8, .int x9, .int (s0 - x9), .int (if 0 ≤ (s0 - x9) then s0 - x9 else -(s0 - x9) : Int32)] [.int (if (if 0 ≤ (s0 - x9) then s0 - x9 else -(s0 - x9) : Int32) ≤ x8 then x7 else x9 : Int32)] mem Q := by
            refine ex_many (pc' := 148) (ls' := [.ref 33, .int x1, .int x2, .int x3, .int (x4 + (zb (¬ (¬ (s0 - x9) = 0)))), .int (x5 + (zb (¬ (0 ≤ (s0 - x9))))), .int (x6 + (zb (¬ ((s0 - x9) ≤ 0)))), .int (if (if 0 ≤ (s0 - x9) then s0 - x9 else -(s0 - x9) : Int32) ≤ x8 then x7 else x9 : Int32), .int x8, .int x9, .int (s0 - x9), .int (if 0 ≤ (s0 - x9) then s0 - x9 else -(s0 - x9) : Int32)]) (st' := [.int x8, .int (if 0 ≤ (s0 - x9) then s0 - x9 else -(s0 - x9) : Int32)]) (mem' := mem) hS hC 3 rfl ?_
            have kp38 : pm_Ex ro m_X10_figuresOf 158 [.ref 33, .int x1, .int x2, .int x3, .int (x4 + (zb (¬ (¬ (s0 - x9) = 0)))), .int (x5 + (zb (¬ (0 ≤ (s0 - x9))))), .int (x6 + (zb (¬ ((s0 - x9) ≤ 0)))), .int (if (if 0 ≤ (s0 - x9) then s0 - x9 else -(s0 - x9) : Int32) ≤ x8 then x7 else x9 : Int32), .int x8, .int x9, .int (s0 - x9), .int (if 0 ≤ (s0 - x9) then s0 - x9 else -(s0 - x9) : Int32)] [.int (if (if 0 ≤ (s0 - x9) then s0 - x9 else -(s0 - x9) : Int32) ≤ x8 then x8 else (if 0 ≤ (s0 - x9) then s0 - x9 else -(s0 - x9) : Int32) : Int32)] mem Q := by
              refine ex_many (pc' := 44) (ls' := [.ref 33, .int x1, .int x2, .int x3, .int (x4 + (zb (¬ (¬ (s0 - x9) = 0)))), .int (x5 + (zb (¬ (0 ≤ (s0 - x9))))), .int (x6 + (zb (¬ ((s0 - x9) ≤ 0)))), .int (if (if 0 ≤ (s0 - x9) then s0 - x9 else -(s0 - x9) : Int32) ≤ x8 then x7 else x9 : Int32), .int (if (if 0 ≤ (s0 - x9) then s0 - x9 else -(s0 - x9) : Int32) ≤ x8 then x8 else (if 0 ≤ (s0 - x9) then s0 - x9 else -(s0 - x9) : Int32) : Int32), .int (x9 + 1), .int (s0 - x9), .int (if 0 ≤ (s0 - x9) then s0 - x9 else -(s0 - x9) : Int32)]) (st' := []) (mem' := mem) hS hC 3 rfl ?_
              exact k
            refine ex_br (P := (if 0 ≤ (s0 - x9) then s0 - x9 else -(s0 - x9) : Int32) ≤ x8) (a := 156) (b := 151) (ls' := [.ref 33, .int x1, .int x2, .int x3, .int (x4 + (zb (¬ (¬ (s0 - x9) = 0)))), .int (x5 + (zb (¬ (0 ≤ (s0 - x9))))), .int (x6 + (zb (¬ ((s0 - x9) ≤ 0)))), .int (if (if 0 ≤ (s0 - x9) then s0 - x9 else -(s0 - x9) : Int32) ≤ x8 then x7 else x9 : Int32), .int x8, .int x9, .int (s0 - x9), .int (if 0 ≤ (s0 - x9) then s0 - x9 else -(s0 - x9) : Int32)]) (st' := []) (mem' := mem) hS hC rfl (fun h => ?_) (fun h => ?_)
            · have kp38a : pm_Ex ro m_X10_figuresOf 158 [.ref 33, .int x1, .int x2, .int x3, .int (x4 + (zb (¬ (¬ (s0 - x9) = 0)))), .int (x5 + (zb (¬ (0 ≤ (s0 - x9))))), .int (x6 + (zb (¬ ((s0 - x9) ≤ 0)))), .int (if (if 0 ≤ (s0 - x9) then s0 - x9 else -(s0 - x9) : Int32) ≤ x8 then x7 else x9 : Int32), .int x8, .int x9, .int (s0 - x9), .int (if 0 ≤ (s0 - x9) then s0 - x9 else -(s0 - x9) : Int32)] [.int x8] mem Q := pm_phi1 (f := fun z0 => pm_Ex ro m_X10_figuresOf 158 [.ref 33, .int x1, .int x2, .int x3, .int (x4 + (zb (¬ (¬ (s0 - x9) = 0)))), .int (x5 + (zb (¬ (0 ≤ (s0 - x9))))), .int (x6 + (zb (¬ ((s0 - x9) ≤ 0)))), .int (if (if 0 ≤ (s0 - x9) then s0 - x9 else -(s0 - x9) : Int32) ≤ x8 then x7 else x9 : Int32), .int x8, .int x9, .int (s0 - x9), .int (if 0 ≤ (s0 - x9) then s0 - x9 else -(s0 - x9) : Int32)] [.int z0] mem Q) (if_pos (h)) kp38
              refine ex_many (pc' := 158) (ls' := [.ref 33, .int x1, .int x2, .int x3, .int (x4 + (zb (¬ (¬ (s0 - x9) = 0)))), .int (x5 + (zb (¬ (0 ≤ (s0 - x9))))), .int (x6 + (zb (¬ ((s0 - x9) ≤ 0)))), .int (if (if 0 ≤ (s0 - x9) then s0 - x9 else -(s0 - x9) : Int32) ≤ x8 then x7 else x9 : Int32), .int x8, .int x9, .int (s0 - x9), .int (if 0 ≤ (s0 - x9) then s0 - x9 else -(s0 - x9) : Int32)]) (st' := [.int x8]) (mem' := mem) hS hC 1 rfl ?_
              exact kp38a
            · have kp38b : pm_Ex ro m_X10_figuresOf 158 [.ref 33, .int x1, .int x2, .int x3, .int (x4 + (zb (¬ (¬ (s0 - x9) = 0)))), .int (x5 + (zb (¬ (0 ≤ (s0 - x9))))), .int (x6 + (zb (¬ ((s0 - x9) ≤ 0)))), .int (if (if 0 ≤ (s0 - x9) then s0 - x9 else -(s0 - x9) : Int32) ≤ x8 then x7 else x9 : Int32), .int x8, .int x9, .int (s0 - x9), .int (if 0 ≤ (s0 - x9) then s0 - x9 else -(s0 - x9) : Int32)] [.int (if 0 ≤ (s0 - x9) then s0 - x9 else -(s0 - x9) : Int32)] mem Q := pm_phi1 (f := fun z0 => pm_Ex ro m_X10_figuresOf 158 [.ref 33, .int x1, .int x2, .int x3, .int (x4 + (zb (¬ (¬ (s0 - x9) = 0)))), .int (x5 + (zb (¬ (0 ≤ (s0 - x9))))), .int (x6 + (zb (¬ ((s0 - x9) ≤ 0)))), .int (if (if 0 ≤ (s0 - x9) then s0 - x9 else -(s0 - x9) : Int32) ≤ x8 then x7 else x9 : Int32), .int x8, .int x9, .int (s0 - x9), .int (if 0 ≤ (s0 - x9) then s0 - x9 else -(s0 - x9) : Int32)] [.int z0] mem Q) (if_neg (h)) kp38
              refine ex_many (pc' := 158) (ls' := [.ref 33, .int x1, .int x2, .int x3, .int (x4 + (zb (¬ (¬ (s0 - x9) = 0)))), .int (x5 + (zb (¬ (0 ≤ (s0 - x9))))), .int (x6 + (zb (¬ ((s0 - x9) ≤ 0)))), .int (if (if 0 ≤ (s0 - x9) then s0 - x9 else -(s0 - x9) : Int32) ≤ x8 then x7 else x9 : Int32), .int x8, .int x9, .int (s0 - x9), .int (if 0 ≤ (s0 - x9) then s0 - x9 else -(s0 - x9) : Int32)]) (st' := [.int (if 0 ≤ (s0 - x9) then s0 - x9 else -(s0 - x9) : Int32)]) (mem' := mem) hS hC 2 rfl ?_
              exact kp38b
          refine ex_br (P := (if 0 ≤ (s0 - x9) then s0 - x9 else -(s0 - x9) : Int32) ≤ x8) (a := 140) (b := 135) (ls' := [.ref 33, .int x1, .int x2, .int x3, .int (x4 + (zb (¬ (¬ (s0 - x9) = 0)))), .int (x5 + (zb (¬ (0 ≤ (s0 - x9))))), .int (x6 + (zb (¬ ((s0 - x9) ≤ 0)))), .int x7, .int x8, .int x9, .int (s0 - x9), .int (if 0 ≤ (s0 - x9) then s0 - x9 else -(s0 - x9) : Int32)]) (st' := []) (mem' := mem) hS hC rfl (fun h => ?_) (fun h => ?_)
          · have kp39a : pm_Ex ro m_X10_figuresOf 142 [.ref 33, .int x1, .int x2, .int x3, .int (x4 + (zb (¬ (¬ (s0 - x9) = 0)))), .int (x5 + (zb (¬ (0 ≤ (s0 - x9))))), .int (x6 + (zb (¬ ((s0 - x9) ≤ 0)))), .int x7, .int x8, .int x9, .int (s0 - x9), .int (if 0 ≤ (s0 - x9) then s0 - x9 else -(s0 - x9) : Int32)] [.int x7] mem Q := pm_phi1 (f := fun z0 => pm_Ex ro m_X10_figuresOf 142 [.ref 33, .int x1, .int x2, .int x3, .int (x4 + (zb (¬ (¬ (s0 - x9) = 0)))), .int (x5 + (zb (¬ (0 ≤ (s0 - x9))))), .int (x6 + (zb (¬ ((s0 - x9) ≤ 0)))), .int x7, .int x8, .int x9, .int (s0 - x9), .int (if 0 ≤ (s0 - x9) then s0 - x9 else -(s0 - x9) : Int32)] [.int z0] mem Q) (if_pos (h)) kp39
            refine ex_many (pc' := 142) (ls' := [.ref 33, .int x1, .int x2, .int x3, .int (x4 + (zb (¬ (¬ (s0 - x9) = 0)))), .int (x5 + (zb (¬ (0 ≤ (s0 - x9))))), .int (x6 + (zb (¬ ((s0 - x9) ≤ 0)))), .int x7, .int x8, .int x9, .int (s0 - x9), .int (if 0 ≤ (s0 - x9) then s0 - x9 else -(s0 - x9) : Int32)]) (st' := [.int x7]) (mem' := mem) hS hC 1 rfl ?_
            exact kp39a
          · have kp39b : pm_Ex ro m_X10_figuresOf 142 [.ref 33, .int x1, .int x2, .int x3, .int (x4 + (zb (¬ (¬ (s0 - x9) = 0)))), .int (x5 + (zb (¬ (0 ≤ (s0 - x9))))), .int (x6 + (zb (¬ ((s0 - x9) ≤ 0)))), .int x7, .int x8, .int x9, .int (s0 - x9), .int (if 0 ≤ (s0 - x9) then s0 - x9 else -(s0 - x9) : Int32)] [.int x9] mem Q := pm_phi1 (f := fun z0 => pm_Ex ro m_X10_figuresOf 142 [.ref 33, .int x1, .int x2, .int x3, .int (x4 + (zb (¬ (¬ (s0 - x9) = 0)))), .int (x5 + (zb (¬ (0 ≤ (s0 - x9))))), .int (x6 + (zb (¬ ((s0 - x9) ≤ 0)))), .int x7, .int x8, .int x9, .int (s0 - x9), .int (if 0 ≤ (s0 - x9) then s0 - x9 else -(s0 - x9) : Int32)] [.int z0] mem Q) (if_neg (h)) kp39
            refine ex_many (pc' := 142) (ls' := [.ref 33, .int x1, .int x2, .int x3, .int (x4 + (zb (¬ (¬ (s0 - x9) = 0)))), .int (x5 + (zb (¬ (0 ≤ (s0 - x9))))), .int (x6 + (zb (¬ ((s0 - x9) ≤ 0)))), .int x7, .int x8, .int x9, .int (s0 - x9), .int (if 0 ≤ (s0 - x9) then s0 - x9 else -(s0 - x9) : Int32)]) (st' := [.int x9]) (mem' := mem) hS hC 2 rfl ?_
            exact kp39b
        refine ex_br (P := 0 ≤ (s0 - x9)) (a := 124) (b := 118) (ls' := [.ref 33, .int x1, .int x2, .int x3, .int (x4 + (zb (¬ (¬ (s0 - x9) = 0)))), .int (x5 + (zb (¬ (0 ≤ (s0 - x9))))), .int (x6 + (zb (¬ ((s0 - x9) ≤ 0)))), .int x7, .int x8, .int x9, .int (s0 - x9), .null]) (st' := []) (mem' := mem) hS hC rfl (fun h => ?_) (fun h => ?_)
        · have kp40a : pm_Ex ro m_X10_figuresOf 126 [.ref 33, .int x1, .int x2, .int x3, .int (x4 + (zb (¬ (¬ (s0 - x9) = 0)))), .int (x5 + (zb (¬ (0 ≤ (s0 - x9))))), .int (x6 + (zb (¬ ((s0 - x9) ≤ 0)))), .int x7, .int x8, .int x9, .int (s0 - x9), .null] [.int (s0 - x9)] mem Q := pm_phi1 (f := fun z0 => pm_Ex ro m_X10_figuresOf 126 [.ref 33, .int x1, .int x2, .int x3, .int (x4 + (zb (¬ (¬ (s0 - x9) = 0)))), .int (x5 + (zb (¬ (0 ≤ (s0 - x9))))), .int (x6 + (zb (¬ ((s0 - x9) ≤ 0)))), .int x7, .int x8, .int x9, .int (s0 - x9), .null] [.int z0] mem Q) (if_pos (h)) kp40
          refine ex_many (pc' := 126) (ls' := [.ref 33, .int x1, .int x2, .int x3, .int (x4 + (zb (¬ (¬ (s0 - x9) = 0)))), .int (x5 + (zb (¬ (0 ≤ (s0 - x9))))), .int (x6 + (zb (¬ ((s0 - x9) ≤ 0)))), .int x7, .int x8, .int x9, .int (s0 - x9), .null]) (st' := [.int (s0 - x9)]) (mem' := mem) hS hC 1 rfl ?_
          exact kp40a
        · have kp40b : pm_Ex ro m_X10_figuresOf 126 [.ref 33, .int x1, .int x2, .int x3, .int (x4 + (zb (¬ (¬ (s0 - x9) = 0)))), .int (x5 + (zb (¬ (0 ≤ (s0 - x9))))), .int (x6 + (zb (¬ ((s0 - x9) ≤ 0)))), .int x7, .int x8, .int x9, .int (s0 - x9), .null] [.int (-(s0 - x9))] mem Q := pm_phi1 (f := fun z0 => pm_Ex ro m_X10_figuresOf 126 [.ref 33, .int x1, .int x2, .int x3, .int (x4 + (zb (¬ (¬ (s0 - x9) = 0)))), .int (x5 + (zb (¬ (0 ≤ (s0 - x9))))), .int (x6 + (zb (¬ ((s0 - x9) ≤ 0)))), .int x7, .int x8, .int x9, .int (s0 - x9), .null] [.int z0] mem Q) (if_neg (h)) kp40
          refine ex_many (pc' := 126) (ls' := [.ref 33, .int x1, .int x2, .int x3, .int (x4 + (zb (¬ (¬ (s0 - x9) = 0)))), .int (x5 + (zb (¬ (0 ≤ (s0 - x9))))), .int (x6 + (zb (¬ ((s0 - x9) ≤ 0)))), .int x7, .int x8, .int x9, .int (s0 - x9), .null]) (st' := [.int (-(s0 - x9))]) (mem' := mem) hS hC 3 rfl ?_
          exact kp40b
      refine ex_br (P := (s0 - x9) ≤ 0) (a := 109) (b := 105) (ls' := [.ref 33, .int x1, .int x2, .int x3, .int (x4 + (zb (¬ (¬ (s0 - x9) = 0)))), .int (x5 + (zb (¬ (0 ≤ (s0 - x9))))), .int x6, .int x7, .int x8, .int x9, .int (s0 - x9), .null]) (st' := [.int x6]) (mem' := mem) hS hC rfl (fun h => ?_) (fun h => ?_)
      · have kp41a : pm_Ex ro m_X10_figuresOf 110 [.ref 33, .int x1, .int x2, .int x3, .int (x4 + (zb (¬ (¬ (s0 - x9) = 0)))), .int (x5 + (zb (¬ (0 ≤ (s0 - x9))))), .int x6, .int x7, .int x8, .int x9, .int (s0 - x9), .null] [.int 0, .int x6] mem Q := pm_phi1 (f := fun z0 => pm_Ex ro m_X10_figuresOf 110 [.ref 33, .int x1, .int x2, .int x3, .int (x4 + (zb (¬ (¬ (s0 - x9) = 0)))), .int (x5 + (zb (¬ (0 ≤ (s0 - x9))))), .int x6, .int x7, .int x8, .int x9, .int (s0 - x9), .null] [.int z0, .int x6] mem Q) (zb_npos (h)) kp41
        refine ex_many (pc' := 110) (ls' := [.ref 33, .int x1, .int x2, .int x3, .int (x4 + (zb (¬ (¬ (s0 - x9) = 0)))), .int (x5 + (zb (¬ (0 ≤ (s0 - x9))))), .int x6, .int x7, .int x8, .int x9, .int (s0 - x9), .null]) (st' := [.int 0, .int x6]) (mem' := mem) hS hC 1 rfl ?_
        exact kp41a
      · have kp41b : pm_Ex ro m_X10_figuresOf 110 [.ref 33, .int x1, .int x2, .int x3, .int (x4 + (zb (¬ (¬ (s0 - x9) = 0)))), .int (x5 + (zb (¬ (0 ≤ (s0 - x9))))), .int x6, .int x7, .int x8, .int x9, .int (s0 - x9), .null] [.int 1, .int x6] mem Q := pm_phi1 (f := fun z0 => pm_Ex ro m_X10_figuresOf 110 [.ref 33, .int x1, .int x2, .int x3, .int (x4 + (zb (¬ (¬ (s0 - x9) = 0)))), .int (x5 + (zb (¬ (0 ≤ (s0 - x9))))), .int x6, .int x7, .int x8, .int x9, .int (s0 - x9), .null] [.int z0, .int x6] mem Q) (zb_nneg (h)) kp41
        refine ex_many (pc' := 110) (ls' := [.ref 33, .int x1, .int x2, .int x3, .int (x4 + (zb (¬ (¬ (s0 - x9) = 0)))), .int (x5 + (zb (¬ (0 ≤ (s0 - x9))))), .int x6, .int x7, .int x8, .int x9, .int (s0 - x9), .null]) (st' := [.int 1, .int x6]) (mem' := mem) hS hC 2 rfl ?_
        exact kp41b
    refine ex_br (P := 0 ≤ (s0 - x9)) (a := 94) (b := 90) (ls' := [.ref 33, .int x1, .int x2, .int x3, .int (x4 + (zb (¬ (¬ (s0 - x9) = 0)))), .int x5, .int x6, .int x7, .int x8, .int x9, .int (s0 - x9), .null]) (st' := [.int x5]) (mem' := mem) hS hC rfl (fun h => ?_) (fun h => ?_)
    · have kp42a : pm_Ex ro m_X10_figuresOf 95 [.ref 33, .int x1, .int x2, .int x3, .int (x4 + (zb (¬ (¬ (s0 - x9) = 0)))), .int x5, .int x6, .int x7, .int x8, .int x9, .int (s0 - x9), .null] [.int 0, .int x5] mem Q := pm_phi1 (f := fun z0 => pm_Ex ro m_X10_figuresOf 95 [.ref 33, .int x1, .int x2, .int x3, .int (x4 + (zb (¬ (¬ (s0 - x9) = 0)))), .int x5, .int x6, .int x7, .int x8, .int x9, .int (s0 - x9), .null] [.int z0, .int x5] mem Q) (zb_npos (h)) kp42
      refine ex_many (pc' := 95) (ls' := [.ref 33, .int x1, .int x2, .int x3, .int (x4 + (zb (¬ (¬ (s0 - x9) = 0)))), .int x5, .int x6, .int x7, .int x8, .int x9, .int (s0 - x9), .null]) (st' := [.int 0, .int x5]) (mem' := mem) hS hC 1 rfl ?_
      exact kp42a
    · have kp42b : pm_Ex ro m_X10_figuresOf 95 [.ref 33, .int x1, .int x2, .int x3, .int (x4 + (zb (¬ (¬ (s0 - x9) = 0)))), .int x5, .int x6, .int x7, .int x8, .int x9, .int (s0 - x9), .null] [.int 1, .int x5] mem Q := pm_phi1 (f := fun z0 => pm_Ex ro m_X10_figuresOf 95 [.ref 33, .int x1, .int x2, .int x3, .int (x4 + (zb (¬ (¬ (s0 - x9) = 0)))), .int x5, .int x6, .int x7, .int x8, .int x9, .int (s0 - x9), .null] [.int z0, .int x5] mem Q) (zb_nneg (h)) kp42
      refine ex_many (pc' := 95) (ls' := [.ref 33, .int x1, .int x2, .int x3, .int (x4 + (zb (¬ (¬ (s0 - x9) = 0)))), .int x5, .int x6, .int x7, .int x8, .int x9, .int (s0 - x9), .null]) (st' := [.int 1, .int x5]) (mem' := mem) hS hC 2 rfl ?_
      exact kp42b
  refine ex_br (P := ¬ (s0 - x9) = 0) (a := 79) (b := 75) (ls' := [.ref 33, .int x1, .int x2, .int x3, .int x4, .int x5, .int x6, .int x7, .int x8, .int x9, .int (s0 - x9), .null]) (st' := [.int x4]) (mem' := mem) hS hC rfl (fun h => ?_) (fun h => ?_)
  · have kp43a : pm_Ex ro m_X10_figuresOf 80 [.ref 33, .int x1, .int x2, .int x3, .int x4, .int x5, .int x6, .int x7, .int x8, .int x9, .int (s0 - x9), .null] [.int 0, .int x4] mem Q := pm_phi1 (f := fun z0 => pm_Ex ro m_X10_figuresOf 80 [.ref 33, .int x1, .int x2, .int x3, .int x4, .int x5, .int x6, .int x7, .int x8, .int x9, .int (s0 - x9), .null] [.int z0, .int x4] mem Q) (zb_npos (h)) kp43
    refine ex_many (pc' := 80) (ls' := [.ref 33, .int x1, .int x2, .int x3, .int x4, .int x5, .int x6, .int x7, .int x8, .int x9, .int (s0 - x9), .null]) (st' := [.int 0, .int x4]) (mem' := mem) hS hC 1 rfl ?_
    exact kp43a
  · have kp43b : pm_Ex ro m_X10_figuresOf 80 [.ref 33, .int x1, .int x2, .int x3, .int x4, .int x5, .int x6, .int x7, .int x8, .int x9, .int (s0 - x9), .null] [.int 1, .int x4] mem Q := pm_phi1 (f := fun z0 => pm_Ex ro m_X10_figuresOf 80 [.ref 33, .int x1, .int x2, .int x3, .int x4, .int x5, .int x6, .int x7, .int x8, .int x9, .int (s0 - x9), .null] [.int z0, .int x4] mem Q) (zb_nneg (h)) kp43
    refine ex_many (pc' := 80) (ls' := [.ref 33, .int x1, .int x2, .int x3, .int x4, .int x5, .int x6, .int x7, .int x8, .int x9, .int (s0 - x9), .null]) (st' := [.int 1, .int x4]) (mem' := mem) hS hC 2 rfl ?_
    exact kp43b

set_option maxRecDepth 20000 in
theorem bk_X10_figures_0 {ro : pm_RO} {Q : Option Value → pm_M → Prop} {mem : pm_M} {a1 a2 : Int32} (k : (1 ≤ a1 ∧ a1 ≤ 3 → (0 ≤ a2 ∧ a2 ≤ 3 → pm_Ex ro m_X10_figuresOf 0 [.ref 33, .int a1, .int a2, .null, .null, .null, .null, .null, .null, .null, .null, .null] [] mem (fun v m => pm_Ex ro m_X10_figures 30 [.ref 33, .int a1, .int a2] (v.toList ++ []) m Q)) ∧ (¬ (0 ≤ a2 ∧ a2 ≤ 3) → Q (some (.int (-2))) mem)) ∧ (¬ (1 ≤ a1 ∧ a1 ≤ 3) → Q (some (.int (-2))) mem)) : pm_Ex ro m_X10_figures 0 [.ref 33, .int a1, .int a2] [] mem Q := by
  have hS : pm_sig[m_X10_figures]? = some _ := rfl
  have hC : pm_cod[m_X10_figures]? = some _ := rfl
  refine ex_many (pc' := 6) (ls' := [.ref 33, .int a1, .int a2]) (st' := [.long 3, .long 1, .long a1.toInt64]) (mem' := mem) hS hC 4 rfl ?_
  refine ex_call (y' := m_X10_in) (rest := []) (ent := [.long a1.toInt64, .null, .long 1, .null, .long 3, .null]) hS hC rfl rfl rfl rfl rfl rfl ?_
  refine sp_in32 (v := a1) (lo := 1) (hi := 3) (by decide) (by decide) ?_
  show pm_Ex ro m_X10_figures 9 [.ref 33, .int a1, .int a2] [.int (zb (1 ≤ a1 ∧ a1 ≤ 3))] mem Q
  refine ex_br (P := (zb (1 ≤ a1 ∧ a1 ≤ 3)) = 0) (a := 33) (b := 12) (ls' := [.ref 33, .int a1, .int a2]) (st' := []) (mem' := mem) hS hC rfl (fun h => ?_) (fun h => ?_)
  · replace k := k.2 (zb0 h)
    refine ex_many (pc' := 35) (ls' := [.ref 33, .int a1, .int a2]) (st' := [.int (-2)]) (mem' := mem) hS hC 1 rfl ?_
    exact ex_ret (v := (some (.int (-2)))) hS hC rfl rfl rfl k
  · replace k := k.1 (zb1 h)
    refine ex_many (pc' := 18) (ls' := [.ref 33, .int a1, .int a2]) (st' := [.long 3, .long 0, .long a2.toInt64]) (mem' := mem) hS hC 4 rfl ?_
    refine ex_call (y' := m_X10_in) (rest := []) (ent := [.long a2.toInt64, .null, .long 0, .null, .long 3, .null]) hS hC rfl rfl rfl rfl rfl rfl ?_
    refine sp_in32 (v := a2) (lo := 0) (hi := 3) (by decide) (by decide) ?_
    show pm_Ex ro m_X10_figures 21 [.ref 33, .int a1, .int a2] [.int (zb (0 ≤ a2 ∧ a2 ≤ 3))] mem Q
    refine ex_br (P := (zb (0 ≤ a2 ∧ a2 ≤ 3)) = 0) (a := 33) (b := 24) (ls' := [.ref 33, .int a1, .int a2]) (st' := []) (mem' := mem) hS hC rfl (fun h => ?_) (fun h => ?_)
    · replace k := k.2 (zb0 h)
      refine ex_many (pc' := 35) (ls' := [.ref 33, .int a1, .int a2]) (st' := [.int (-2)]) (mem' := mem) hS hC 1 rfl ?_
      exact ex_ret (v := (some (.int (-2)))) hS hC rfl rfl rfl k
    · replace k := k.1 (zb1 h)
      refine ex_many (pc' := 27) (ls' := [.ref 33, .int a1, .int a2]) (st' := [.int a2, .int a1, .ref 33]) (mem' := mem) hS hC 3 rfl ?_
      refine ex_call (y' := m_X10_figuresOf) (rest := []) (ent := [.ref 33, .int a1, .int a2, .null, .null, .null, .null, .null, .null, .null, .null, .null]) hS hC rfl rfl rfl rfl rfl rfl ?_
      exact k

set_option maxRecDepth 20000 in
theorem bk_X10_figures_30 {ro : pm_RO} {Q : Option Value → pm_M → Prop} {mem : pm_M} {x1 x2 s0 : Int32} (k : Q (some (.int s0)) mem) : pm_Ex ro m_X10_figures 30 [.ref 33, .int x1, .int x2] [.int s0] mem Q := by
  have hS : pm_sig[m_X10_figures]? = some _ := rfl
  have hC : pm_cod[m_X10_figures]? = some _ := rfl
  refine ex_many (pc' := 35) (ls' := [.ref 33, .int x1, .int x2]) (st' := [.int s0]) (mem' := mem) hS hC 1 rfl ?_
  exact ex_ret (v := (some (.int s0))) hS hC rfl rfl rfl k

set_option maxRecDepth 20000 in
theorem bk_X10_rentOf_0 {ro : pm_RO} {Q : Option Value → pm_M → Prop} {mem : pm_M} {a1 a2 a3 : Int32} (k : pm_Ex ro m_X10_rentOf 3 [.ref 33, .int a1, .int a2, .int a3, .int 0, .null, .null, .null, .null] [] mem Q) : pm_Ex ro m_X10_rentOf 0 [.ref 33, .int a1, .int a2, .int a3, .null, .null, .null, .null, .null] [] mem Q := by
  have hS : pm_sig[m_X10_rentOf]? = some _ := rfl
  have hC : pm_cod[m_X10_rentOf]? = some _ := rfl
  refine ex_many (pc' := 3) (ls' := [.ref 33, .int a1, .int a2, .int a3, .int 0, .null, .null, .null, .null]) (st' := []) (mem' := mem) hS hC 2 rfl ?_
  exact k

set_option maxRecDepth 20000 in
theorem bk_X10_rentOf_3 {ro : pm_RO} {Q : Option Value → pm_M → Prop} {mem : pm_M} {x1 x2 x3 x4 : Int32} (k : (x1 < x4 → pm_Ex ro m_X10_rentOf 31 [.ref 33, .int x1, .int x2, .int x3, .int 1, .null, .null, .null, .null] [] mem Q) ∧ (¬ (x1 < x4) → pm_Ex ro m_X10_paidFor 0 [.ref 33, .int x4, .null, .null, .null, .null] [] mem (fun v m => pm_Ex ro m_X10_rentOf 21 [.ref 33, .int x1, .int x2, .int x3, .int x4, .null, .null, .null, .null] (v.toList ++ [.int x4, .ref 46]) m Q))) : pm_Ex ro m_X10_rentOf 3 [.ref 33, .int x1, .int x2, .int x3, .int x4, .null, .null, .null, .null] [] mem Q := by
  have hS : pm_sig[m_X10_rentOf]? = some _ := rfl
  have hC : pm_cod[m_X10_rentOf]? = some _ := rfl
  refine ex_many (pc' := 6) (ls' := [.ref 33, .int x1, .int x2, .int x3, .int x4, .null, .null, .null, .null]) (st' := [.int x1, .int x4]) (mem' := mem) hS hC 2 rfl ?_
  refine ex_br (P := x1 < x4) (a := 28) (b := 9) (ls' := [.ref 33, .int x1, .int x2, .int x3, .int x4, .null, .null, .null, .null]) (st' := []) (mem' := mem) hS hC rfl (fun h => ?_) (fun h => ?_)
  · replace k := k.1 (h)
    refine ex_many (pc' := 31) (ls' := [.ref 33, .int x1, .int x2, .int x3, .int 1, .null, .null, .null, .null]) (st' := []) (mem' := mem) hS hC 2 rfl ?_
    exact k
  · replace k := k.2 (h)
    refine ex_many (pc' := 18) (ls' := [.ref 33, .int x1, .int x2, .int x3, .int x4, .null, .null, .null, .null]) (st' := [.int x4, .ref 33, .int x4, .ref 46]) (mem' := mem) hS hC 5 rfl ?_
    refine ex_call (y' := m_X10_paidFor) (rest := [.int x4, .ref 46]) (ent := [.ref 33, .int x4, .null, .null, .null, .null]) hS hC rfl rfl rfl rfl rfl rfl ?_
    exact k

set_option maxRecDepth 20000 in
theorem bk_X10_rentOf_31 {ro : pm_RO} {Q : Option Value → pm_M → Prop} {mem : pm_M} {x1 x2 x3 x4 : Int32} (k : (x2 ≤ x4 → (pm_inb x1 121 = true) ∧ (Q (some (.int (mem 46 x1.toNatClampNeg))) mem)) ∧ (¬ (x2 ≤ x4) → pm_Ex ro m_X10_rentOf 40 [.ref 33, .int x1, .int x2, .int x3, .int x4, .int 0, .null, .null, .null] [] mem Q)) : pm_Ex ro m_X10_rentOf 31 [.ref 33, .int x1, .int x2, .int x3, .int x4, .null, .null, .null, .null] [] mem Q := by
  have hS : pm_sig[m_X10_rentOf]? = some _ := rfl
  have hC : pm_cod[m_X10_rentOf]? = some _ := rfl
  refine ex_many (pc' := 34) (ls' := [.ref 33, .int x1, .int x2, .int x3, .int x4, .null, .null, .null, .null]) (st' := [.int x2, .int x4]) (mem' := mem) hS hC 2 rfl ?_
  refine ex_br (P := x2 ≤ x4) (a := 170) (b := 37) (ls' := [.ref 33, .int x1, .int x2, .int x3, .int x4, .null, .null, .null, .null]) (st' := []) (mem' := mem) hS hC rfl (fun h => ?_) (fun h => ?_)
  · replace k := k.1 (h)
    refine ex_many (pc' := 175) (ls' := [.ref 33, .int x1, .int x2, .int x3, .int x4, .null, .null, .null, .null]) (st' := [.int x1, .ref 46]) (mem' := mem) hS hC 3 rfl ?_
    refine ex_grd (b := pm_inb x1 121) (pc' := 176) (ls' := [.ref 33, .int x1, .int x2, .int x3, .int x4, .null, .null, .null, .null]) (st' := [.int (mem 46 x1.toNatClampNeg)]) (mem' := mem) hS hC rfl k.1 ?_
    replace k := k.2
    exact ex_ret (v := (some (.int (mem 46 x1.toNatClampNeg)))) hS hC rfl rfl rfl k
  · replace k := k.2 (h)
    refine ex_many (pc' := 40) (ls' := [.ref 33, .int x1, .int x2, .int x3, .int x4, .int 0, .null, .null, .null]) (st' := []) (mem' := mem) hS hC 2 rfl ?_
    exact k

set_option maxRecDepth 20000 in
theorem bk_X10_rentOf_40 {ro : pm_RO} {Q : Option Value → pm_M → Prop} {mem : pm_M} {x1 x2 x3 x4 x5 : Int32} (k : (x1 < x5 → pm_Ex ro m_X10_rentOf 138 [.ref 33, .int x1, .int x2, .int x3, .int x4, .int 0, .null, .null, .null] [] mem Q) ∧ (¬ (x1 < x5) → (pm_inb x5 121 = true) ∧ (pm_Ex ro m_X10_rentOf 58 [.ref 33, .int x1, .int x2, .int x3, .int x4, .int x5, .int (mem 46 x5.toNatClampNeg), .int 1, .null] [] mem Q))) : pm_Ex ro m_X10_rentOf 40 [.ref 33, .int x1, .int x2, .int x3, .int x4, .int x5, .null, .null, .null] [] mem Q := by
  have hS : pm_sig[m_X10_rentOf]? = some _ := rfl
  have hC : pm_cod[m_X10_rentOf]? = some _ := rfl
  refine ex_many (pc' := 43) (ls' := [.ref 33, .int x1, .int x2, .int x3, .int x4, .int x5, .null, .null, .null]) (st' := [.int x1, .int x5]) (mem' := mem) hS hC 2 rfl ?_
  refine ex_br (P := x1 < x5) (a := 135) (b := 46) (ls' := [.ref 33, .int x1, .int x2, .int x3, .int x4, .int x5, .null, .null, .null]) (st' := []) (mem' := mem) hS hC rfl (fun h => ?_) (fun h => ?_)
  · replace k := k.1 (h)
    refine ex_many (pc' := 138) (ls' := [.ref 33, .int x1, .int x2, .int x3, .int x4, .int 0, .null, .null, .null]) (st' := []) (mem' := mem) hS hC 2 rfl ?_
    exact k
  · replace k := k.2 (h)
    refine ex_many (pc' := 52) (ls' := [.ref 33, .int x1, .int x2, .int x3, .int x4, .int x5, .null, .null, .null]) (st' := [.int x5, .ref 46]) (mem' := mem) hS hC 3 rfl ?_
    refine ex_grd (b := pm_inb x5 121) (pc' := 53) (ls' := [.ref 33, .int x1, .int x2, .int x3, .int x4, .int x5, .null, .null, .null]) (st' := [.int (mem 46 x5.toNatClampNeg)]) (mem' := mem) hS hC rfl k.1 ?_
    replace k := k.2
    refine ex_many (pc' := 58) (ls' := [.ref 33, .int x1, .int x2, .int x3, .int x4, .int x5, .int (mem 46 x5.toNatClampNeg), .int 1, .null]) (st' := []) (mem' := mem) hS hC 3 rfl ?_
    exact k

set_option maxRecDepth 20000 in
theorem bk_X10_rentOf_58 {ro : pm_RO} {Q : Option Value → pm_M → Prop} {mem : pm_M} {x1 x2 x3 x4 x5 x6 x7 : Int32} (k : (x5 < x7 → (pm_inb x5 121 = true) ∧ (pm_Ex ro m_X10_rentOf 40 [.ref 33, .int x1, .int x2, .int x3, .int x4, .int (x5 + 1), .int x6, .int x7, .null] [] (pm_up mem 47 x5.toNatClampNeg x6) Q)) ∧ (¬ (x5 < x7) → pm_Ex ro m_X10_paidFor 0 [.ref 33, .int x7, .null, .null, .null, .null] [] mem (fun v m => pm_Ex ro m_X10_rentOf 71 [.ref 33, .int x1, .int x2, .int x3, .int x4, .int x5, .int x6, .int x7, .null] (v.toList ++ []) m Q))) : pm_Ex ro m_X10_rentOf 58 [.ref 33, .int x1, .int x2, .int x3, .int x4, .int x5, .int x6, .int x7, .null] [] mem Q := by
  have hS : pm_sig[m_X10_rentOf]? = some _ := rfl
  have hC : pm_cod[m_X10_rentOf]? = some _ := rfl
  refine ex_many (pc' := 62) (ls' := [.ref 33, .int x1, .int x2, .int x3, .int x4, .int x5, .int x6, .int x7, .null]) (st' := [.int x5, .int x7]) (mem' := mem) hS hC 2 rfl ?_
  refine ex_br (P := x5 < x7) (a := 120) (b := 65) (ls' := [.ref 33, .int x1, .int x2, .int x3, .int x4, .int x5, .int x6, .int x7, .null]) (st' := []) (mem' := mem) hS hC rfl (fun h => ?_) (fun h => ?_)
  · replace k := k.1 (h)
    refine ex_many (pc' := 128) (ls' := [.ref 33, .int x1, .int x2, .int x3, .int x4, .int x5, .int x6, .int x7, .null]) (st' := [.int x6, .int x5, .ref 47]) (mem' := mem) hS hC 4 rfl ?_
    refine ex_grd (b := pm_inb x5 121) (pc' := 129) (ls' := [.ref 33, .int x1, .int x2, .int x3, .int x4, .int x5, .int x6, .int x7, .null]) (st' := []) (mem' := pm_up mem 47 x5.toNatClampNeg x6) hS hC rfl k.1 ?_
    replace k := k.2
    refine ex_many (pc' := 40) (ls' := [.ref 33, .int x1, .int x2, .int x3, .int x4, .int (x5 + 1), .int x6, .int x7, .null]) (st' := []) (mem' := pm_up mem 47 x5.toNatClampNeg x6) hS hC 2 rfl ?_
    exact k
  · replace k := k.2 (h)
    refine ex_many (pc' := 68) (ls' := [.ref 33, .int x1, .int x2, .int x3, .int x4, .int x5, .int x6, .int x7, .null]) (st' := [.int x7, .ref 33]) (mem' := mem) hS hC 2 rfl ?_
    refine ex_call (y' := m_X10_paidFor) (rest := []) (ent := [.ref 33, .int x7, .null, .null, .null, .null]) hS hC rfl rfl rfl rfl rfl rfl ?_
    exact k

set_option maxRecDepth 20000 in
theorem bk_X10_rentOf_138 {ro : pm_RO} {Q : Option Value → pm_M → Prop} {mem : pm_M} {x1 x2 x3 x4 x5 : Int32} (k : (x1 < x5 → pm_Ex ro m_X10_rentOf 31 [.ref 33, .int x1, .int x2, .int x3, .int (x4 + 1), .int x5, .null, .null, .null] [] mem Q) ∧ (¬ (x1 < x5) → (pm_inb x5 121 = true) ∧ ((pm_inb x5 121 = true) ∧ (pm_Ex ro m_X10_rentOf 138 [.ref 33, .int x1, .int x2, .int x3, .int x4, .int (x5 + 1), .null, .null, .null] [] (pm_up mem 46 x5.toNatClampNeg (mem 47 x5.toNatClampNeg)) Q)))) : pm_Ex ro m_X10_rentOf 138 [.ref 33, .int x1, .int x2, .int x3, .int x4, .int x5, .null, .null, .null] [] mem Q := by
  have hS : pm_sig[m_X10_rentOf]? = some _ := rfl
  have hC : pm_cod[m_X10_rentOf]? = some _ := rfl
  refine ex_many (pc' := 141) (ls' := [.ref 33, .int x1, .int x2, .int x3, .int x4, .int x5, .null, .null, .null]) (st' := [.int x1, .int x5]) (mem' := mem) hS hC 2 rfl ?_
  refine ex_br (P := x1 < x5) (a := 164) (b := 144) (ls' := [.ref 33, .int x1, .int x2, .int x3, .int x4, .int x5, .null, .null, .null]) (st' := []) (mem' := mem) hS hC rfl (fun h => ?_) (fun h => ?_)
  · replace k := k.1 (h)
    refine ex_many (pc' := 31) (ls' := [.ref 33, .int x1, .int x2, .int x3, .int (x4 + 1), .int x5, .null, .null, .null]) (st' := []) (mem' := mem) hS hC 2 rfl ?_
    exact k
  · replace k := k.2 (h)
    refine ex_many (pc' := 156) (ls' := [.ref 33, .int x1, .int x2, .int x3, .int x4, .int x5, .null, .null, .null]) (st' := [.int x5, .ref 47, .int x5, .ref 46]) (mem' := mem) hS hC 6 rfl ?_
    refine ex_grd (b := pm_inb x5 121) (pc' := 157) (ls' := [.ref 33, .int x1, .int x2, .int x3, .int x4, .int x5, .null, .null, .null]) (st' := [.int (mem 47 x5.toNatClampNeg), .int x5, .ref 46]) (mem' := mem) hS hC rfl k.1 ?_
    replace k := k.2
    refine ex_grd (b := pm_inb x5 121) (pc' := 158) (ls' := [.ref 33, .int x1, .int x2, .int x3, .int x4, .int x5, .null, .null, .null]) (st' := []) (mem' := pm_up mem 46 x5.toNatClampNeg (mem 47 x5.toNatClampNeg)) hS hC rfl k.1 ?_
    replace k := k.2
    refine ex_many (pc' := 138) (ls' := [.ref 33, .int x1, .int x2, .int x3, .int x4, .int (x5 + 1), .null, .null, .null]) (st' := []) (mem' := pm_up mem 46 x5.toNatClampNeg (mem 47 x5.toNatClampNeg)) hS hC 2 rfl ?_
    exact k

set_option maxRecDepth 20000 in
theorem bk_X10_rentOf_21 {ro : pm_RO} {Q : Option Value → pm_M → Prop} {mem : pm_M} {x1 x2 x3 x4 s0 s1 : Int32} (k : (pm_inb s1 121 = true) ∧ (pm_Ex ro m_X10_rentOf 3 [.ref 33, .int x1, .int x2, .int x3, .int (x4 + 1), .null, .null, .null, .null] [] (pm_up mem 46 s1.toNatClampNeg s0) Q)) : pm_Ex ro m_X10_rentOf 21 [.ref 33, .int x1, .int x2, .int x3, .int x4, .null, .null, .null, .null] [.int s0, .int s1, .ref 46] mem Q := by
  have hS : pm_sig[m_X10_rentOf]? = some _ := rfl
  have hC : pm_cod[m_X10_rentOf]? = some _ := rfl
  refine ex_grd (b := pm_inb s1 121) (pc' := 22) (ls' := [.ref 33, .int x1, .int x2, .int x3, .int x4, .null, .null, .null, .null]) (st' := []) (mem' := pm_up mem 46 s1.toNatClampNeg s0) hS hC rfl k.1 ?_
  replace k := k.2
  refine ex_many (pc' := 3) (ls' := [.ref 33, .int x1, .int x2, .int x3, .int (x4 + 1), .null, .null, .null, .null]) (st' := []) (mem' := pm_up mem 46 s1.toNatClampNeg s0) hS hC 2 rfl ?_
  exact k

set_option maxRecDepth 20000 in
theorem bk_X10_rentOf_71 {ro : pm_RO} {Q : Option Value → pm_M → Prop} {mem : pm_M} {x1 x2 x3 x4 x5 x6 x7 s0 : Int32} (k : (pm_inb (x5 - x7) 121 = true) ∧ (pm_Ex ro m_X10_rentOf 58 [.ref 33, .int x1, .int x2, .int x3, .int x4, .int x5, .int (if ¬ x3 = 0 then (if (s0 + (mem 46 ((x5 - x7).toNatClampNeg))) ≤ x6 then x6 else s0 + (mem 46 ((x5 - x7).toNatClampNeg)) : Int32) else (if x6 ≤ (s0 + (mem 46 ((x5 - x7).toNatClampNeg))) then x6 else s0 + (mem 46 ((x5 - x7).toNatClampNeg)) : Int32) : Int32), .int (x7 + 1), .int (s0 + (mem 46 ((x5 - x7).toNatClampNeg)))] [] mem Q)) : pm_Ex ro m_X10_rentOf 71 [.ref 33, .int x1, .int x2, .int x3, .int x4, .int x5, .int x6, .int x7, .null] [.int s0] mem Q := by
  have hS : pm_sig[m_X10_rentOf]? = some _ := rfl
  have hC : pm_cod[m_X10_rentOf]? = some _ := rfl
  refine ex_many (pc' := 80) (ls' := [.ref 33, .int x1, .int x2, .int x3, .int x4, .int x5, .int x6, .int x7, .null]) (st' := [.int (x5 - x7), .ref 46, .int s0]) (mem' := mem) hS hC 5 rfl ?_
  refine ex_grd (b := pm_inb (x5 - x7) 121) (pc' := 81) (ls' := [.ref 33, .int x1, .int x2, .int x3, .int x4, .int x5, .int x6, .int x7, .null]) (st' := [.int (mem 46 ((x5 - x7).toNatClampNeg)), .int s0]) (mem' := mem) hS hC rfl k.1 ?_
  replace k := k.2
  refine ex_many (pc' := 85) (ls' := [.ref 33, .int x1, .int x2, .int x3, .int x4, .int x5, .int x6, .int x7, .int (s0 + (mem 46 ((x5 - x7).toNatClampNeg)))]) (st' := [.int x3]) (mem' := mem) hS hC 3 rfl ?_
  have kp46 : pm_Ex ro m_X10_rentOf 112 [.ref 33, .int x1, .int x2, .int x3, .int x4, .int x5, .int x6, .int x7, .int (s0 + (mem 46 ((x5 - x7).toNatClampNeg)))] [.int (if ¬ x3 = 0 then (if (s0 + (mem 46 ((x5 - x7).toNatClampNeg))) ≤ x6 then x6 else s0 + (mem 46 ((x5 - x7).toNatClampNeg)) : Int32) else (if x6 ≤ (s0 + (mem 46 ((x5 - x7).toNatClampNeg))) then x6 else s0 + (mem 46 ((x5 - x7).toNatClampNeg)) : Int32) : Int32)] mem Q := by
    refine ex_many (pc' := 58) (ls' := [.ref 33, .int x1, .int x2, .int x3, .int x4, .int x5, .int (if ¬ x3 = 0 then (if (s0 + (mem 46 ((x5 - x7).toNatClampNeg))) ≤ x6 then x6 else s0 + (mem 46 ((x5 - x7).toNatClampNeg)) : Int32) else (if x6 ≤ (s0 + (mem 46 ((x5 - x7).toNatClampNeg))) then x6 else s0 + (mem 46 ((x5 - x7).toNatClampNeg)) : Int32) : Int32), .int (x7 + 1), .int (s0 + (mem 46 ((x5 - x7).toNatClampNeg)))]) (st' := []) (mem' := mem) hS hC 3 rfl ?_
    exact k
  refine ex_br (P := ¬ x3 = 0) (a := 98) (b := 88) (ls' := [.ref 33, .int x1, .int x2, .int x3, .int x4, .int x5, .int x6, .int x7, .int (s0 + (mem 46 ((x5 - x7).toNatClampNeg)))]) (st' := []) (mem' := mem) hS hC rfl (fun h => ?_) (fun h => ?_)
  · have kp46a : pm_Ex ro m_X10_rentOf 112 [.ref 33, .int x1, .int x2, .int x3, .int x4, .int x5, .int x6, .int x7, .int (s0 + (mem 46 ((x5 - x7).toNatClampNeg)))] [.int (if (s0 + (mem 46 ((x5 - x7).toNatClampNeg))) ≤ x6 then x6 else s0 + (mem 46 ((x5 - x7).toNatClampNeg)) : Int32)] mem Q := pm_phi1 (f := fun z0 => pm_Ex ro m_X10_rentOf 112 [.ref 33, .int x1, .int x2, .int x3, .int x4, .int x5, .int x6, .int x7, .int (s0 + (mem 46 ((x5 - x7).toNatClampNeg)))] [.int z0] mem Q) (if_pos (h)) kp46
    have kp44 : pm_Ex ro m_X10_rentOf 112 [.ref 33, .int x1, .int x2, .int x3, .int x4, .int x5, .int x6, .int x7, .int (s0 + (mem 46 ((x5 - x7).toNatClampNeg)))] [.int (if (s0 + (mem 46 ((x5 - x7).toNatClampNeg))) ≤ x6 then x6 else s0 + (mem 46 ((x5 - x7).toNatClampNeg)) : Int32)] mem Q := by
      exact kp46a
    refine ex_many (pc' := 102) (ls' := [.ref 33, .int x1, .int x2, .int x3, .int x4, .int x5, .int x6, .int x7, .int (s0 + (mem 46 ((x5 - x7).toNatClampNeg)))]) (st' := [.int x6, .int (s0 + (mem 46 ((x5 - x7).toNatClampNeg)))]) (mem' := mem) hS hC 2 rfl ?_
    refine ex_br (P := (s0 + (mem 46 ((x5 - x7).toNatClampNeg))) ≤ x6) (a := 110) (b := 105) (ls' := [.ref 33, .int x1, .int x2, .int x3, .int x4, .int x5, .int x6, .int x7, .int (s0 + (mem 46 ((x5 - x7).toNatClampNeg)))]) (st' := []) (mem' := mem) hS hC rfl (fun h => ?_) (fun h => ?_)
    · have kp44a : pm_Ex ro m_X10_rentOf 112 [.ref 33, .int x1, .int x2, .int x3, .int x4, .int x5, .int x6, .int x7, .int (s0 + (mem 46 ((x5 - x7).toNatClampNeg)))] [.int x6] mem Q := pm_phi1 (f := fun z0 => pm_Ex ro m_X10_rentOf 112 [.ref 33, .int x1, .int x2, .int x3, .int x4, .int x5, .int x6, .int x7, .int (s0 + (mem 46 ((x5 - x7).toNatClampNeg)))] [.int z0] mem Q) (if_pos (h)) kp44
      refine ex_many (pc' := 112) (ls' := [.ref 33, .int x1, .int x2, .int x3, .int x4, .int x5, .int x6, .int x7, .int (s0 + (mem 46 ((x5 - x7).toNatClampNeg)))]) (st' := [.int x6]) (mem' := mem) hS hC 1 rfl ?_
      exact kp44a
    · have kp44b : pm_Ex ro m_X10_rentOf 112 [.ref 33, .int x1, .int x2, .int x3, .int x4, .int x5, .int x6, .int x7, .int (s0 + (mem 46 ((x5 - x7).toNatClampNeg)))] [.int (s0 + (mem 46 ((x5 - x7).toNatClampNeg)))] mem Q := pm_phi1 (f := fun z0 => pm_Ex ro m_X10_rentOf 112 [.ref 33, .int x1, .int x2, .int x3, .int x4, .int x5, .int x6, .int x7, .int (s0 + (mem 46 ((x5 - x7).toNatClampNeg)))] [.int z0] mem Q) (if_neg (h)) kp44
      refine ex_many (pc' := 112) (ls' := [.ref 33, .int x1, .int x2, .int x3, .int x4, .int x5, .int x6, .int x7, .int (s0 + (mem 46 ((x5 - x7).toNatClampNeg)))]) (st' := [.int (s0 + (mem 46 ((x5 - x7).toNatClampNeg)))]) (mem' := mem) hS hC 2 rfl ?_
      exact kp44b
  · have kp46b : pm_Ex ro m_X10_rentOf 112 [.ref 33, .int x1, .int x2, .int x3, .int x4, .int x5, .int x6, .int x7, .int (s0 + (mem 46 ((x5 - x7).toNatClampNeg)))] [.int (if x6 ≤ (s0 + (mem 46 ((x5 - x7).toNatClampNeg))) then x6 else s0 + (mem 46 ((x5 - x7).toNatClampNeg)) : Int32)] mem Q := pm_phi1 (f := fun z0 => pm_Ex ro m_X10_rentOf 112 [.ref 33, .int x1, .int x2, .int x3, .int x4, .int x5, .int x6, .int x7, .int (s0 + (mem 46 ((x5 - x7).toNatClampNeg)))] [.int z0] mem Q) (if_neg (h)) kp46
    have kp45 : pm_Ex ro m_X10_rentOf 112 [.ref 33, .int x1, .int x2, .int x3, .int x4, .int x5, .int x6, .int x7, .int (s0 + (mem 46 ((x5 - x7).toNatClampNeg)))] [.int (if x6 ≤ (s0 + (mem 46 ((x5 - x7).toNatClampNeg))) then x6 else s0 + (mem 46 ((x5 - x7).toNatClampNeg)) : Int32)] mem Q := by
      exact kp46b
    refine ex_many (pc' := 92) (ls' := [.ref 33, .int x1, .int x2, .int x3, .int x4, .int x5, .int x6, .int x7, .int (s0 + (mem 46 ((x5 - x7).toNatClampNeg)))]) (st' := [.int x6, .int (s0 + (mem 46 ((x5 - x7).toNatClampNeg)))]) (mem' := mem) hS hC 2 rfl ?_
    refine ex_br (P := x6 ≤ (s0 + (mem 46 ((x5 - x7).toNatClampNeg)))) (a := 110) (b := 95) (ls' := [.ref 33, .int x1, .int x2, .int x3, .int x4, .int x5, .int x6, .int x7, .int (s0 + (mem 46 ((x5 - x7).toNatClampNeg)))]) (st' := []) (mem' := mem) hS hC rfl (fun h => ?_) (fun h => ?_)
    · have kp45a : pm_Ex ro m_X10_rentOf 112 [.ref 33, .int x1, .int x2, .int x3, .int x4, .int x5, .int x6, .int x7, .int (s0 + (mem 46 ((x5 - x7).toNatClampNeg)))] [.int x6] mem Q := pm_phi1 (f := fun z0 => pm_Ex ro m_X10_rentOf 112 [.ref 33, .int x1, .int x2, .int x3, .int x4, .int x5, .int x6, .int x7, .int (s0 + (mem 46 ((x5 - x7).toNatClampNeg)))] [.int z0] mem Q) (if_pos (h)) kp45
      refine ex_many (pc' := 112) (ls' := [.ref 33, .int x1, .int x2, .int x3, .int x4, .int x5, .int x6, .int x7, .int (s0 + (mem 46 ((x5 - x7).toNatClampNeg)))]) (st' := [.int x6]) (mem' := mem) hS hC 1 rfl ?_
      exact kp45a
    · have kp45b : pm_Ex ro m_X10_rentOf 112 [.ref 33, .int x1, .int x2, .int x3, .int x4, .int x5, .int x6, .int x7, .int (s0 + (mem 46 ((x5 - x7).toNatClampNeg)))] [.int (s0 + (mem 46 ((x5 - x7).toNatClampNeg)))] mem Q := pm_phi1 (f := fun z0 => pm_Ex ro m_X10_rentOf 112 [.ref 33, .int x1, .int x2, .int x3, .int x4, .int x5, .int x6, .int x7, .int (s0 + (mem 46 ((x5 - x7).toNatClampNeg)))] [.int z0] mem Q) (if_neg (h)) kp45
      refine ex_many (pc' := 112) (ls' := [.ref 33, .int x1, .int x2, .int x3, .int x4, .int x5, .int x6, .int x7, .int (s0 + (mem 46 ((x5 - x7).toNatClampNeg)))]) (st' := [.int (s0 + (mem 46 ((x5 - x7).toNatClampNeg)))]) (mem' := mem) hS hC 3 rfl ?_
      exact kp45b

set_option maxRecDepth 20000 in
theorem bk_X10_rent_0 {ro : pm_RO} {Q : Option Value → pm_M → Prop} {mem : pm_M} {a1 a2 a3 : Int32} (k : (0 ≤ a1 ∧ a1 ≤ 120 → (1 ≤ a2 ∧ a2 ≤ 6 → (0 ≤ a3 ∧ a3 ≤ 1 → pm_Ex ro m_X10_rentOf 0 [.ref 33, .int a1, .int a2, .int a3, .null, .null, .null, .null, .null] [] mem (fun v m => pm_Ex ro m_X10_rent 38 [.ref 33, .int a1, .int a2, .int a3] (v.toList ++ []) m Q)) ∧ (¬ (0 ≤ a3 ∧ a3 ≤ 1) → Q (some (.int (-2))) mem)) ∧ (¬ (1 ≤ a2 ∧ a2 ≤ 6) → Q (some (.int (-2))) mem)) ∧ (¬ (0 ≤ a1 ∧ a1 ≤ 120) → Q (some (.int (-2))) mem)) : pm_Ex ro m_X10_rent 0 [.ref 33, .int a1, .int a2, .int a3] [] mem Q := by
  have hS : pm_sig[m_X10_rent]? = some _ := rfl
  have hC : pm_cod[m_X10_rent]? = some _ := rfl
  refine ex_many (pc' := 6) (ls' := [.ref 33, .int a1, .int a2, .int a3]) (st' := [.long 120, .long 0, .long a1.toInt64]) (mem' := mem) hS hC 4 rfl ?_
  refine ex_call (y' := m_X10_in) (rest := []) (ent := [.long a1.toInt64, .null, .long 0, .null, .long 120, .null]) hS hC rfl rfl rfl rfl rfl rfl ?_
  refine sp_in32 (v := a1) (lo := 0) (hi := 120) (by decide) (by decide) ?_
  show pm_Ex ro m_X10_rent 9 [.ref 33, .int a1, .int a2, .int a3] [.int (zb (0 ≤ a1 ∧ a1 ≤ 120))] mem Q
  refine ex_br (P := (zb (0 ≤ a1 ∧ a1 ≤ 120)) = 0) (a := 41) (b := 12) (ls' := [.ref 33, .int a1, .int a2, .int a3]) (st' := []) (mem' := mem) hS hC rfl (fun h => ?_) (fun h => ?_)
  · replace k := k.2 (zb0 h)
    refine ex_many (pc' := 43) (ls' := [.ref 33, .int a1, .int a2, .int a3]) (st' := [.int (-2)]) (mem' := mem) hS hC 1 rfl ?_
    exact ex_ret (v := (some (.int (-2)))) hS hC rfl rfl rfl k
  · replace k := k.1 (zb1 h)
    refine ex_many (pc' := 18) (ls' := [.ref 33, .int a1, .int a2, .int a3]) (st' := [.long 6, .long 1, .long a2.toInt64]) (mem' := mem) hS hC 4 rfl ?_
    refine ex_call (y' := m_X10_in) (rest := []) (ent := [.long a2.toInt64, .null, .long 1, .null, .long 6, .null]) hS hC rfl rfl rfl rfl rfl rfl ?_
    refine sp_in32 (v := a2) (lo := 1) (hi := 6) (by decide) (by decide) ?_
    show pm_Ex ro m_X10_rent 21 [.ref 33, .int a1, .int a2, .int a3] [.int (zb (1 ≤ a2 ∧ a2 ≤ 6))] mem Q
    refine ex_br (P := (zb (1 ≤ a2 ∧ a2 ≤ 6)) = 0) (a := 41) (b := 24) (ls' := [.ref 33, .int a1, .int a2, .int a3]) (st' := []) (mem' := mem) hS hC rfl (fun h => ?_) (fun h => ?_)
    · replace k := k.2 (zb0 h)
      refine ex_many (pc' := 43) (ls' := [.ref 33, .int a1, .int a2, .int a3]) (st' := [.int (-2)]) (mem' := mem) hS hC 1 rfl ?_
      exact ex_ret (v := (some (.int (-2)))) hS hC rfl rfl rfl k
    · replace k := k.1 (zb1 h)
      refine ex_many (pc' := 25) (ls' := [.ref 33, .int a1, .int a2, .int a3]) (st' := [.int a3]) (mem' := mem) hS hC 1 rfl ?_
      refine ex_call (y' := m_X10_isTwo) (rest := []) (ent := [.int a3]) hS hC rfl rfl rfl rfl rfl rfl ?_
      refine bk_X10_isTwo_0 ?_
      show pm_Ex ro m_X10_rent 28 [.ref 33, .int a1, .int a2, .int a3] [.int (zb (0 ≤ a3 ∧ a3 ≤ 1))] mem Q
      refine ex_br (P := (zb (0 ≤ a3 ∧ a3 ≤ 1)) = 0) (a := 41) (b := 31) (ls' := [.ref 33, .int a1, .int a2, .int a3]) (st' := []) (mem' := mem) hS hC rfl (fun h => ?_) (fun h => ?_)
      · replace k := k.2 (zb0 h)
        refine ex_many (pc' := 43) (ls' := [.ref 33, .int a1, .int a2, .int a3]) (st' := [.int (-2)]) (mem' := mem) hS hC 1 rfl ?_
        exact ex_ret (v := (some (.int (-2)))) hS hC rfl rfl rfl k
      · replace k := k.1 (zb1 h)
        refine ex_many (pc' := 35) (ls' := [.ref 33, .int a1, .int a2, .int a3]) (st' := [.int a3, .int a2, .int a1, .ref 33]) (mem' := mem) hS hC 4 rfl ?_
        refine ex_call (y' := m_X10_rentOf) (rest := []) (ent := [.ref 33, .int a1, .int a2, .int a3, .null, .null, .null, .null, .null]) hS hC rfl rfl rfl rfl rfl rfl ?_
        exact k

set_option maxRecDepth 20000 in
theorem bk_X10_rent_38 {ro : pm_RO} {Q : Option Value → pm_M → Prop} {mem : pm_M} {x1 x2 x3 s0 : Int32} (k : Q (some (.int s0)) mem) : pm_Ex ro m_X10_rent 38 [.ref 33, .int x1, .int x2, .int x3] [.int s0] mem Q := by
  have hS : pm_sig[m_X10_rent]? = some _ := rfl
  have hC : pm_cod[m_X10_rent]? = some _ := rfl
  refine ex_many (pc' := 43) (ls' := [.ref 33, .int x1, .int x2, .int x3]) (st' := [.int s0]) (mem' := mem) hS hC 1 rfl ?_
  exact ex_ret (v := (some (.int s0))) hS hC rfl rfl rfl k

set_option maxRecDepth 20000 in
theorem bk_X10_worth_0 {ro : pm_RO} {Q : Option Value → pm_M → Prop} {mem : pm_M} {a1 : Int32} (k : pm_Ex ro m_X10_worth 4 [.ref 33, .int a1, .int 0, .int 0] [] mem Q) : pm_Ex ro m_X10_worth 0 [.ref 33, .int a1, .null, .null] [] mem Q := by
  have hS : pm_sig[m_X10_worth]? = some _ := rfl
  have hC : pm_cod[m_X10_worth]? = some _ := rfl
  refine ex_many (pc' := 4) (ls' := [.ref 33, .int a1, .int 0, .int 0]) (st' := []) (mem' := mem) hS hC 4 rfl ?_
  exact k

set_option maxRecDepth 20000 in
theorem bk_X10_worth_4 {ro : pm_RO} {Q : Option Value → pm_M → Prop} {mem : pm_M} {x1 x2 x3 : Int32} (k : ((mem 33 8) ≤ x3 → pm_Ex ro m_X10_paidFor 0 [.ref 33, .int x2, .null, .null, .null, .null] [] mem (fun v m => pm_Ex ro m_X10_worth 49 [.ref 33, .int x1, .int x2, .int x3] (v.toList ++ []) m Q)) ∧ (¬ ((mem 33 8) ≤ x3) → (pm_inb x3 8 = true) ∧ ((¬ (¬ ((x1 >>> ((mem 40 x3.toNatClampNeg) &&& 31)) &&& 1) = 1) → (pm_inb x3 8 = true) ∧ (pm_Ex ro m_X10_worth 4 [.ref 33, .int x1, .int (x2 + (mem 39 x3.toNatClampNeg)), .int (x3 + 1)] [] mem Q)) ∧ (¬ (¬ (¬ ((x1 >>> ((mem 40 x3.toNatClampNeg) &&& 31)) &&& 1) = 1)) → pm_Ex ro m_X10_worth 4 [.ref 33, .int x1, .int (x2 + 0), .int (x3 + 1)] [] mem Q)))) : pm_Ex ro m_X10_worth 4 [.ref 33, .int x1, .int x2, .int x3] [] mem Q := by
  have hS : pm_sig[m_X10_worth]? = some _ := rfl
  have hC : pm_cod[m_X10_worth]? = some _ := rfl
  refine ex_many (pc' := 9) (ls' := [.ref 33, .int x1, .int x2, .int x3]) (st' := [.int (mem 33 8), .int x3]) (mem' := mem) hS hC 3 rfl ?_
  refine ex_br (P := (mem 33 8) ≤ x3) (a := 44) (b := 12) (ls' := [.ref 33, .int x1, .int x2, .int x3]) (st' := []) (mem' := mem) hS hC rfl (fun h => ?_) (fun h => ?_)
  · replace k := k.1 (h)
    refine ex_many (pc' := 46) (ls' := [.ref 33, .int x1, .int x2, .int x3]) (st' := [.int x2, .ref 33]) (mem' := mem) hS hC 2 rfl ?_
    refine ex_call (y' := m_X10_paidFor) (rest := []) (ent := [.ref 33, .int x2, .null, .null, .null, .null]) hS hC rfl rfl rfl rfl rfl rfl ?_
    exact k
  · replace k := k.2 (h)
    refine ex_many (pc' := 19) (ls' := [.ref 33, .int x1, .int x2, .int x3]) (st' := [.int x3, .ref 40, .int x1, .int x2]) (mem' := mem) hS hC 5 rfl ?_
    refine ex_grd (b := pm_inb x3 8) (pc' := 20) (ls' := [.ref 33, .int x1, .int x2, .int x3]) (st' := [.int (mem 40 x3.toNatClampNeg), .int x1, .int x2]) (mem' := mem) hS hC rfl k.1 ?_
    replace k := k.2
    refine ex_call (y' := m_X10_isIn) (rest := [.int x2]) (ent := [.int x1, .int (mem 40 x3.toNatClampNeg)]) hS hC rfl rfl rfl rfl rfl rfl ?_
    refine bk_X10_isIn_0 ?_
    show pm_Ex ro m_X10_worth 23 [.ref 33, .int x1, .int x2, .int x3] [.int (zb (¬ (¬ ((x1 >>> ((mem 40 x3.toNatClampNeg) &&& 31)) &&& 1) = 1))), .int x2] mem Q
    refine ex_br (P := (zb (¬ (¬ ((x1 >>> ((mem 40 x3.toNatClampNeg) &&& 31)) &&& 1) = 1))) = 0) (a := 35) (b := 26) (ls' := [.ref 33, .int x1, .int x2, .int x3]) (st' := [.int x2]) (mem' := mem) hS hC rfl (fun h => ?_) (fun h => ?_)
    · replace k := k.2 (zb0 h)
      refine ex_many (pc' := 4) (ls' := [.ref 33, .int x1, .int (x2 + 0), .int (x3 + 1)]) (st' := []) (mem' := mem) hS hC 5 rfl ?_
      exact k
    · replace k := k.1 (zb1 h)
      refine ex_many (pc' := 31) (ls' := [.ref 33, .int x1, .int x2, .int x3]) (st' := [.int x3, .ref 39, .int x2]) (mem' := mem) hS hC 3 rfl ?_
      refine ex_grd (b := pm_inb x3 8) (pc' := 32) (ls' := [.ref 33, .int x1, .int x2, .int x3]) (st' := [.int (mem 39 x3.toNatClampNeg), .int x2]) (mem' := mem) hS hC rfl k.1 ?_
      replace k := k.2
      refine ex_many (pc' := 4) (ls' := [.ref 33, .int x1, .int (x2 + (mem 39 x3.toNatClampNeg)), .int (x3 + 1)]) (st' := []) (mem' := mem) hS hC 5 rfl ?_
      exact k

set_option maxRecDepth 20000 in
theorem bk_X10_worth_49 {ro : pm_RO} {Q : Option Value → pm_M → Prop} {mem : pm_M} {x1 x2 x3 s0 : Int32} (k : Q (some (.int s0)) mem) : pm_Ex ro m_X10_worth 49 [.ref 33, .int x1, .int x2, .int x3] [.int s0] mem Q := by
  have hS : pm_sig[m_X10_worth]? = some _ := rfl
  have hC : pm_cod[m_X10_worth]? = some _ := rfl
  exact ex_ret (v := (some (.int s0))) hS hC rfl rfl rfl k

set_option maxRecDepth 20000 in
theorem bk_X10_part_0 {ro : pm_RO} {Q : Option Value → pm_M → Prop} {mem : pm_M} {a3 : Int32} {a1 a2 : Int64} (k : (0 ≤ (lg_cmp a1 0) → pm_Ex ro m_X10_part 17 [.long a1, .null, .long a2, .null, .int a3, .long a1, .null, .long a2, .null, .null, .null] [] mem Q) ∧ (¬ (0 ≤ (lg_cmp a1 0)) → pm_Ex ro m_X10_part 17 [.long a1, .null, .long a2, .null, .int a3, .long (-a1), .null, .long a2, .null, .null, .null] [] mem Q)) : pm_Ex ro m_X10_part 0 [.long a1, .null, .long a2, .null, .int a3, .null, .null, .null, .null, .null, .null] [] mem Q := by
  have hS : pm_sig[m_X10_part]? = some _ := rfl
  have hC : pm_cod[m_X10_part]? = some _ := rfl
  refine ex_many (pc' := 3) (ls' := [.long a1, .null, .long a2, .null, .int a3, .null, .null, .null, .null, .null, .null]) (st' := [.int (lg_cmp a1 0)]) (mem' := mem) hS hC 3 rfl ?_
  refine ex_br (P := 0 ≤ (lg_cmp a1 0)) (a := 11) (b := 6) (ls' := [.long a1, .null, .long a2, .null, .int a3, .null, .null, .null, .null, .null, .null]) (st' := []) (mem' := mem) hS hC rfl (fun h => ?_) (fun h => ?_)
  · replace k := k.1 (h)
    refine ex_many (pc' := 17) (ls' := [.long a1, .null, .long a2, .null, .int a3, .long a1, .null, .long a2, .null, .null, .null]) (st' := []) (mem' := mem) hS hC 4 rfl ?_
    exact k
  · replace k := k.2 (h)
    refine ex_many (pc' := 17) (ls' := [.long a1, .null, .long a2, .null, .int a3, .long (-a1), .null, .long a2, .null, .null, .null]) (st' := []) (mem' := mem) hS hC 6 rfl ?_
    exact k

set_option maxRecDepth 20000 in
theorem bk_X10_part_17 {ro : pm_RO} {Q : Option Value → pm_M → Prop} {mem : pm_M} {x4 : Int32} {x0 x2 x5 x7 : Int64} (k : ((lg_cmp x7 0) = 0 → (¬ x4 = 0 → (¬ x5 = 0) ∧ (Q (some (.long (x2 / x5))) mem)) ∧ (¬ (¬ x4 = 0) → (¬ x5 = 0) ∧ (Q (some (.long (x0 / x5))) mem))) ∧ (¬ ((lg_cmp x7 0) = 0) → (¬ x7 = 0) ∧ (pm_Ex ro m_X10_part 17 [.long x0, .null, .long x2, .null, .int x4, .long x7, .null, .long (x5 - x5 / x7 * x7), .null, .long (x5 - x5 / x7 * x7), .null] [] mem Q))) : pm_Ex ro m_X10_part 17 [.long x0, .null, .long x2, .null, .int x4, .long x5, .null, .long x7, .null, .null, .null] [] mem Q := by
  have hS : pm_sig[m_X10_part]? = some _ := rfl
  have hC : pm_cod[m_X10_part]? = some _ := rfl
  refine ex_many (pc' := 21) (ls' := [.long x0, .null, .long x2, .null, .int x4, .long x5, .null, .long x7, .null, .null, .null]) (st' := [.int (lg_cmp x7 0)]) (mem' := mem) hS hC 3 rfl ?_
  refine ex_br (P := (lg_cmp x7 0) = 0) (a := 42) (b := 24) (ls' := [.long x0, .null, .long x2, .null, .int x4, .long x5, .null, .long x7, .null, .null, .null]) (st' := []) (mem' := mem) hS hC rfl (fun h => ?_) (fun h => ?_)
  · replace k := k.1 (h)
    refine ex_many (pc' := 44) (ls' := [.long x0, .null, .long x2, .null, .int x4, .long x5, .null, .long x7, .null, .null, .null]) (st' := [.int x4]) (mem' := mem) hS hC 1 rfl ?_
    refine ex_br (P := ¬ x4 = 0) (a := 51) (b := 47) (ls' := [.long x0, .null, .long x2, .null, .int x4, .long x5, .null, .long x7, .null, .null, .null]) (st' := []) (mem' := mem) hS hC rfl (fun h => ?_) (fun h => ?_)
    · replace k := k.1 (h)
      refine ex_many (pc' := 54) (ls' := [.long x0, .null, .long x2, .null, .int x4, .long x5, .null, .long x7, .null, .null, .null]) (st' := [.long x5, .long x2]) (mem' := mem) hS hC 2 rfl ?_
      refine ex_grd (b := !(decide (x5 = 0))) (pc' := 55) (ls' := [.long x0, .null, .long x2, .null, .int x4, .long x5, .null, .long x7, .null, .null, .null]) (st' := [.long (x2 / x5)]) (mem' := mem) hS hC rfl (pm_nzl k.1) ?_
      replace k := k.2
      exact ex_ret (v := (some (.long (x2 / x5)))) hS hC rfl rfl rfl k
    · replace k := k.2 (h)
      refine ex_many (pc' := 54) (ls' := [.long x0, .null, .long x2, .null, .int x4, .long x5, .null, .long x7, .null, .null, .null]) (st' := [.long x5, .long x0]) (mem' := mem) hS hC 3 rfl ?_
      refine ex_grd (b := !(decide (x5 = 0))) (pc' := 55) (ls' := [.long x0, .null, .long x2, .null, .int x4, .long x5, .null, .long x7, .null, .null, .null]) (st' := [.long (x0 / x5)]) (mem' := mem) hS hC rfl (pm_nzl k.1) ?_
      replace k := k.2
      exact ex_ret (v := (some (.long (x0 / x5)))) hS hC rfl rfl rfl k
  · replace k := k.2 (h)
    refine ex_many (pc' := 28) (ls' := [.long x0, .null, .long x2, .null, .int x4, .long x5, .null, .long x7, .null, .null, .null]) (st' := [.long x7, .long x5]) (mem' := mem) hS hC 2 rfl ?_
    refine ex_grd (b := !(decide (x7 = 0))) (pc' := 29) (ls' := [.long x0, .null, .long x2, .null, .int x4, .long x5, .null, .long x7, .null, .null, .null]) (st' := [.long (x5 - x5 / x7 * x7)]) (mem' := mem) hS hC rfl (pm_nzl k.1) ?_
    replace k := k.2
    refine ex_many (pc' := 17) (ls' := [.long x0, .null, .long x2, .null, .int x4, .long x7, .null, .long (x5 - x5 / x7 * x7), .null, .long (x5 - x5 / x7 * x7), .null]) (st' := []) (mem' := mem) hS hC 6 rfl ?_
    exact k

set_option maxRecDepth 20000 in
theorem bk_X10_shareOf_0 {ro : pm_RO} {Q : Option Value → pm_M → Prop} {mem : pm_M} {a1 a2 : Int32} (k : pm_Ex ro m_X10_shareOf 5 [.ref 33, .int a1, .int a2, .long 0, .null, .int 0, .null, .null] [] mem Q) : pm_Ex ro m_X10_shareOf 0 [.ref 33, .int a1, .int a2, .null, .null, .null, .null, .null] [] mem Q := by
  have hS : pm_sig[m_X10_shareOf]? = some _ := rfl
  have hC : pm_cod[m_X10_shareOf]? = some _ := rfl
  refine ex_many (pc' := 5) (ls' := [.ref 33, .int a1, .int a2, .long 0, .null, .int 0, .null, .null]) (st' := []) (mem' := mem) hS hC 4 rfl ?_
  exact k

set_option maxRecDepth 20000 in
theorem bk_X10_shareOf_5 {ro : pm_RO} {Q : Option Value → pm_M → Prop} {mem : pm_M} {x1 x2 x5 : Int32} {x3 : Int64} (k : (16 ≤ x5 → pm_Ex ro m_X10_part 0 [.long x3, .null, .long 24, .null, .int x2, .null, .null, .null, .null, .null, .null] [] mem (fun v m => pm_Ex ro m_X10_shareOf 86 [.ref 33, .int x1, .int x2, .long x3, .null, .int x5, .null, .null] (v.toList ++ []) m Q)) ∧ (¬ (16 ≤ x5) → (¬ (¬ ((x5 >>> (x1 &&& 31)) &&& 1) = 1) → pm_Ex ro m_X10_shareOf 5 [.ref 33, .int x1, .int x2, .long x3, .null, .int (x5 + 1), .null, .null] [] mem Q) ∧ (¬ (¬ (¬ ((x5 >>> (x1 &&& 31)) &&& 1) = 1)) → pm_Ex ro m_X10_ones 0 [.int x5, .null, .null] [] mem (fun v m => pm_Ex ro m_X10_shareOf 26 [.ref 33, .int x1, .int x2, .long x3, .null, .int x5, .null, .null] (v.toList ++ []) m Q)))) : pm_Ex ro m_X10_shareOf 5 [.ref 33, .int x1, .int x2, .long x3, .null, .int x5, .null, .null] [] mem Q := by
  have hS : pm_sig[m_X10_shareOf]? = some _ := rfl
  have hC : pm_cod[m_X10_shareOf]? = some _ := rfl
  refine ex_many (pc' := 9) (ls' := [.ref 33, .int x1, .int x2, .long x3, .null, .int x5, .null, .null]) (st' := [.int 16, .int x5]) (mem' := mem) hS hC 2 rfl ?_
  refine ex_br (P := 16 ≤ x5) (a := 78) (b := 12) (ls' := [.ref 33, .int x1, .int x2, .long x3, .null, .int x5, .null, .null]) (st' := []) (mem' := mem) hS hC rfl (fun h => ?_) (fun h => ?_)
  · replace k := k.1 (h)
    refine ex_many (pc' := 83) (ls' := [.ref 33, .int x1, .int x2, .long x3, .null, .int x5, .null, .null]) (st' := [.int x2, .long 24, .long x3]) (mem' := mem) hS hC 3 rfl ?_
    refine ex_call (y' := m_X10_part) (rest := []) (ent := [.long x3, .null, .long 24, .null, .int x2, .null, .null, .null, .null, .null, .null]) hS hC rfl rfl rfl rfl rfl rfl ?_
    exact k
  · replace k := k.2 (h)
    refine ex_many (pc' := 15) (ls' := [.ref 33, .int x1, .int x2, .long x3, .null, .int x5, .null, .null]) (st' := [.int x1, .int x5]) (mem' := mem) hS hC 2 rfl ?_
    refine ex_call (y' := m_X10_isIn) (rest := []) (ent := [.int x5, .int x1]) hS hC rfl rfl rfl rfl rfl rfl ?_
    refine bk_X10_isIn_0 ?_
    show pm_Ex ro m_X10_shareOf 18 [.ref 33, .int x1, .int x2, .long x3, .null, .int x5, .null, .null] [.int (zb (¬ (¬ ((x5 >>> (x1 &&& 31)) &&& 1) = 1)))] mem Q
    refine ex_br (P := ¬ (zb (¬ (¬ ((x5 >>> (x1 &&& 31)) &&& 1) = 1))) = 0) (a := 72) (b := 21) (ls' := [.ref 33, .int x1, .int x2, .long x3, .null, .int x5, .null, .null]) (st' := []) (mem' := mem) hS hC rfl (fun h => ?_) (fun h => ?_)
    · replace k := k.1 (zb1 h)
      refine ex_many (pc' := 5) (ls' := [.ref 33, .int x1, .int x2, .long x3, .null, .int (x5 + 1), .null, .null]) (st' := []) (mem' := mem) hS hC 2 rfl ?_
      exact k
    · replace k := k.2 (zb0n h)
      refine ex_many (pc' := 23) (ls' := [.ref 33, .int x1, .int x2, .long x3, .null, .int x5, .null, .null]) (st' := [.int x5]) (mem' := mem) hS hC 1 rfl ?_
      refine ex_call (y' := m_X10_ones) (rest := []) (ent := [.int x5, .null, .null]) hS hC rfl rfl rfl rfl rfl rfl ?_
      exact k

set_option maxRecDepth 20000 in
theorem bk_X10_shareOf_26 {ro : pm_RO} {Q : Option Value → pm_M → Prop} {mem : pm_M} {x1 x2 x5 s0 : Int32} {x3 : Int64} (k : pm_Ex ro m_X10_worth 0 [.ref 33, .int (x5 ||| ((1 : Int32) <<< (x1 &&& 31))), .null, .null] [] mem (fun v m => pm_Ex ro m_X10_shareOf 61 [.ref 33, .int x1, .int x2, .long x3, .null, .int x5, .int s0, .int (if s0 = 0 then 6 else (if ¬ s0 = 3 then 2 else 6 : Int32) : Int32)] (v.toList ++ [.long ((if s0 = 0 then 6 else (if ¬ s0 = 3 then 2 else 6 : Int32) : Int32).toInt64), .long x3]) m Q)) : pm_Ex ro m_X10_shareOf 26 [.ref 33, .int x1, .int x2, .long x3, .null, .int x5, .null, .null] [.int s0] mem Q := by
  have hS : pm_sig[m_X10_shareOf]? = some _ := rfl
  have hC : pm_cod[m_X10_shareOf]? = some _ := rfl
  refine ex_many (pc' := 30) (ls' := [.ref 33, .int x1, .int x2, .long x3, .null, .int x5, .int s0, .null]) (st' := [.int s0]) (mem' := mem) hS hC 2 rfl ?_
  have kp48 : pm_Ex ro m_X10_shareOf 45 [.ref 33, .int x1, .int x2, .long x3, .null, .int x5, .int s0, .null] [.int (if s0 = 0 then 6 else (if ¬ s0 = 3 then 2 else 6 : Int32) : Int32)] mem Q := by
    refine ex_many (pc' := 58) (ls' := [.ref 33, .int x1, .int x2, .long x3, .null, .int x5, .int s0, .int (if s0 = 0 then 6 else (if ¬ s0 = 3 then 2 else 6 : Int32) : Int32)]) (st' := [.int (x5 ||| ((1 : Int32) <<< (x1 &&& 31))), .ref 33, .long ((if s0 = 0 then 6 else (if ¬ s0 = 3 then 2 else 6 : Int32) : Int32).toInt64), .long x3]) (mem' := mem) hS hC 10 rfl ?_
    refine ex_call (y' := m_X10_worth) (rest := [.long ((if s0 = 0 then 6 else (if ¬ s0 = 3 then 2 else 6 : Int32) : Int32).toInt64), .long x3]) (ent := [.ref 33, .int (x5 ||| ((1 : Int32) <<< (x1 &&& 31))), .null, .null]) hS hC rfl rfl rfl rfl rfl rfl ?_
    exact k
  refine ex_br (P := s0 = 0) (a := 39) (b := 33) (ls' := [.ref 33, .int x1, .int x2, .long x3, .null, .int x5, .int s0, .null]) (st' := []) (mem' := mem) hS hC rfl (fun h => ?_) (fun h => ?_)
  · have kp48a : pm_Ex ro m_X10_shareOf 45 [.ref 33, .int x1, .int x2, .long x3, .null, .int x5, .int s0, .null] [.int 6] mem Q := pm_phi1 (f := fun z0 => pm_Ex ro m_X10_shareOf 45 [.ref 33, .int x1, .int x2, .long x3, .null, .int x5, .int s0, .null] [.int z0] mem Q) (if_pos (h)) kp48
    refine ex_many (pc' := 45) (ls' := [.ref 33, .int x1, .int x2, .long x3, .null, .int x5, .int s0, .null]) (st' := [.int 6]) (mem' := mem) hS hC 2 rfl ?_
    exact kp48a
  · have kp48b : pm_Ex ro m_X10_shareOf 45 [.ref 33, .int x1, .int x2, .long x3, .null, .int x5, .int s0, .null] [.int (if ¬ s0 = 3 then 2 else 6 : Int32)] mem Q := pm_phi1 (f := fun z0 => pm_Ex ro m_X10_shareOf 45 [.ref 33, .int x1, .int x2, .long x3, .null, .int x5, .int s0, .null] [.int z0] mem Q) (if_neg (h)) kp48
    have kp47 : pm_Ex ro m_X10_shareOf 45 [.ref 33, .int x1, .int x2, .long x3, .null, .int x5, .int s0, .null] [.int (if ¬ s0 = 3 then 2 else 6 : Int32)] mem Q := by
      exact kp48b
    refine ex_many (pc' := 36) (ls' := [.ref 33, .int x1, .int x2, .long x3, .null, .int x5, .int s0, .null]) (st' := [.int 3, .int s0]) (mem' := mem) hS hC 2 rfl ?_
    refine ex_br (P := ¬ s0 = 3) (a := 44) (b := 39) (ls' := [.ref 33, .int x1, .int x2, .long x3, .null, .int x5, .int s0, .null]) (st' := []) (mem' := mem) hS hC rfl (fun h => ?_) (fun h => ?_)
    · have kp47a : pm_Ex ro m_X10_shareOf 45 [.ref 33, .int x1, .int x2, .long x3, .null, .int x5, .int s0, .null] [.int 2] mem Q := pm_phi1 (f := fun z0 => pm_Ex ro m_X10_shareOf 45 [.ref 33, .int x1, .int x2, .long x3, .null, .int x5, .int s0, .null] [.int z0] mem Q) (if_pos (h)) kp47
      refine ex_many (pc' := 45) (ls' := [.ref 33, .int x1, .int x2, .long x3, .null, .int x5, .int s0, .null]) (st' := [.int 2]) (mem' := mem) hS hC 1 rfl ?_
      exact kp47a
    · have kp47b : pm_Ex ro m_X10_shareOf 45 [.ref 33, .int x1, .int x2, .long x3, .null, .int x5, .int s0, .null] [.int 6] mem Q := pm_phi1 (f := fun z0 => pm_Ex ro m_X10_shareOf 45 [.ref 33, .int x1, .int x2, .long x3, .null, .int x5, .int s0, .null] [.int z0] mem Q) (if_neg (h)) kp47
      refine ex_many (pc' := 45) (ls' := [.ref 33, .int x1, .int x2, .long x3, .null, .int x5, .int s0, .null]) (st' := [.int 6]) (mem' := mem) hS hC 2 rfl ?_
      exact kp47b

set_option maxRecDepth 20000 in
theorem bk_X10_shareOf_86 {ro : pm_RO} {Q : Option Value → pm_M → Prop} {mem : pm_M} {x1 x2 x5 : Int32} {x3 s0 : Int64} (k : Q (some (.long s0)) mem) : pm_Ex ro m_X10_shareOf 86 [.ref 33, .int x1, .int x2, .long x3, .null, .int x5, .null, .null] [.long s0] mem Q := by
  have hS : pm_sig[m_X10_shareOf]? = some _ := rfl
  have hC : pm_cod[m_X10_shareOf]? = some _ := rfl
  exact ex_ret (v := (some (.long s0))) hS hC rfl rfl rfl k

set_option maxRecDepth 20000 in
theorem bk_X10_shareOf_61 {ro : pm_RO} {Q : Option Value → pm_M → Prop} {mem : pm_M} {x1 x2 x5 x6 x7 s0 : Int32} {x3 s1 s2 : Int64} (k : pm_Ex ro m_X10_worth 0 [.ref 33, .int x5, .null, .null] [] mem (fun v m => pm_Ex ro m_X10_shareOf 67 [.ref 33, .int x1, .int x2, .long x3, .null, .int x5, .int x6, .int x7] (v.toList ++ [.int s0, .long s1, .long s2]) m Q)) : pm_Ex ro m_X10_shareOf 61 [.ref 33, .int x1, .int x2, .long x3, .null, .int x5, .int x6, .int x7] [.int s0, .long s1, .long s2] mem Q := by
  have hS : pm_sig[m_X10_shareOf]? = some _ := rfl
  have hC : pm_cod[m_X10_shareOf]? = some _ := rfl
  refine ex_many (pc' := 64) (ls' := [.ref 33, .int x1, .int x2, .long x3, .null, .int x5, .int x6, .int x7]) (st' := [.int x5, .ref 33, .int s0, .long s1, .long s2]) (mem' := mem) hS hC 2 rfl ?_
  refine ex_call (y' := m_X10_worth) (rest := [.int s0, .long s1, .long s2]) (ent := [.ref 33, .int x5, .null, .null]) hS hC rfl rfl rfl rfl rfl rfl ?_
  exact k

set_option maxRecDepth 20000 in
theorem bk_X10_shareOf_67 {ro : pm_RO} {Q : Option Value → pm_M → Prop} {mem : pm_M} {x1 x2 x5 x6 x7 s0 s1 : Int32} {x3 s2 s3 : Int64} (k : pm_Ex ro m_X10_shareOf 5 [.ref 33, .int x1, .int x2, .long (s3 + (s2 * ((s1 - s0).toInt64))), .null, .int (x5 + 1), .int x6, .int x7] [] mem Q) : pm_Ex ro m_X10_shareOf 67 [.ref 33, .int x1, .int x2, .long x3, .null, .int x5, .int x6, .int x7] [.int s0, .int s1, .long s2, .long s3] mem Q := by
  have hS : pm_sig[m_X10_shareOf]? = some _ := rfl
  have hC : pm_cod[m_X10_shareOf]? = some _ := rfl
  refine ex_many (pc' := 5) (ls' := [.ref 33, .int x1, .int x2, .long (s3 + (s2 * ((s1 - s0).toInt64))), .null, .int (x5 + 1), .int x6, .int x7]) (st' := []) (mem' := mem) hS hC 7 rfl ?_
  exact k

set_option maxRecDepth 20000 in
theorem bk_X10_share_0 {ro : pm_RO} {Q : Option Value → pm_M → Prop} {mem : pm_M} {a1 a2 : Int32} (k : pm_Ex ro m_X10_reads 0 [.ref 33, .null] [] mem (fun v m => pm_Ex ro m_X10_share 4 [.ref 33, .int a1, .int a2] (v.toList ++ []) m Q)) : pm_Ex ro m_X10_share 0 [.ref 33, .int a1, .int a2] [] mem Q := by
  have hS : pm_sig[m_X10_share]? = some _ := rfl
  have hC : pm_cod[m_X10_share]? = some _ := rfl
  refine ex_many (pc' := 1) (ls' := [.ref 33, .int a1, .int a2]) (st' := [.ref 33]) (mem' := mem) hS hC 1 rfl ?_
  refine ex_call (y' := m_X10_reads) (rest := []) (ent := [.ref 33, .null]) hS hC rfl rfl rfl rfl rfl rfl ?_
  exact k

set_option maxRecDepth 20000 in
theorem bk_X10_share_4 {ro : pm_RO} {Q : Option Value → pm_M → Prop} {mem : pm_M} {x1 x2 s0 : Int32} (k : (0 ≤ x1 ∧ x1 ≤ 3 → (0 ≤ x2 ∧ x2 ≤ 1 → pm_Ex ro m_X10_shareOf 0 [.ref 33, .int x1, .int x2, .null, .null, .null, .null, .null] [] mem (fun v m => pm_Ex ro m_X10_share 25 [.ref 33, .int x1, .int x2] (v.toList ++ []) m Q)) ∧ (¬ (0 ≤ x2 ∧ x2 ≤ 1) → Q (some (.long ((-9223372036854775808) - (-2 : Int32).toInt64))) mem)) ∧ (¬ (0 ≤ x1 ∧ x1 ≤ 3) → Q (some (.long ((-9223372036854775808) - (-2 : Int32).toInt64))) mem)) : pm_Ex ro m_X10_share 4 [.ref 33, .int x1, .int x2] [.int s0] mem Q := by
  have hS : pm_sig[m_X10_share]? = some _ := rfl
  have hC : pm_cod[m_X10_share]? = some _ := rfl
  refine ex_many (pc' := 6) (ls' := [.ref 33, .int x1, .int x2]) (st' := [.int x1]) (mem' := mem) hS hC 2 rfl ?_
  refine ex_call (y' := m_X10_isPartner) (rest := []) (ent := [.int x1]) hS hC rfl rfl rfl rfl rfl rfl ?_
  refine bk_X10_isPartner_0 ?_
  show pm_Ex ro m_X10_share 9 [.ref 33, .int x1, .int x2] [.int (zb (0 ≤ x1 ∧ x1 ≤ 3))] mem Q
  refine ex_br (P := (zb (0 ≤ x1 ∧ x1 ≤ 3)) = 0) (a := 28) (b := 12) (ls' := [.ref 33, .int x1, .int x2]) (st' := []) (mem' := mem) hS hC rfl (fun h => ?_) (fun h => ?_)
  · replace k := k.2 (zb0 h)
    refine ex_many (pc' := 30) (ls' := [.ref 33, .int x1, .int x2]) (st' := [.int (-2)]) (mem' := mem) hS hC 1 rfl ?_
    refine ex_call (y' := m_X10_no) (rest := []) (ent := [.int (-2)]) hS hC rfl rfl rfl rfl rfl rfl ?_
    refine bk_X10_no_0 ?_
    show pm_Ex ro m_X10_share 33 [.ref 33, .int x1, .int x2] [.long ((-9223372036854775808) - (-2 : Int32).toInt64)] mem Q
    exact ex_ret (v := (some (.long ((-9223372036854775808) - (-2 : Int32).toInt64)))) hS hC rfl rfl rfl k
  · replace k := k.1 (zb1 h)
    refine ex_many (pc' := 13) (ls' := [.ref 33, .int x1, .int x2]) (st' := [.int x2]) (mem' := mem) hS hC 1 rfl ?_
    refine ex_call (y' := m_X10_isTwo) (rest := []) (ent := [.int x2]) hS hC rfl rfl rfl rfl rfl rfl ?_
    refine bk_X10_isTwo_0 ?_
    show pm_Ex ro m_X10_share 16 [.ref 33, .int x1, .int x2] [.int (zb (0 ≤ x2 ∧ x2 ≤ 1))] mem Q
    refine ex_br (P := (zb (0 ≤ x2 ∧ x2 ≤ 1)) = 0) (a := 28) (b := 19) (ls' := [.ref 33, .int x1, .int x2]) (st' := []) (mem' := mem) hS hC rfl (fun h => ?_) (fun h => ?_)
    · replace k := k.2 (zb0 h)
      refine ex_many (pc' := 30) (ls' := [.ref 33, .int x1, .int x2]) (st' := [.int (-2)]) (mem' := mem) hS hC 1 rfl ?_
      refine ex_call (y' := m_X10_no) (rest := []) (ent := [.int (-2)]) hS hC rfl rfl rfl rfl rfl rfl ?_
      refine bk_X10_no_0 ?_
      show pm_Ex ro m_X10_share 33 [.ref 33, .int x1, .int x2] [.long ((-9223372036854775808) - (-2 : Int32).toInt64)] mem Q
      exact ex_ret (v := (some (.long ((-9223372036854775808) - (-2 : Int32).toInt64)))) hS hC rfl rfl rfl k
    · replace k := k.1 (zb1 h)
      refine ex_many (pc' := 22) (ls' := [.ref 33, .int x1, .int x2]) (st' := [.int x2, .int x1, .ref 33]) (mem' := mem) hS hC 3 rfl ?_
      refine ex_call (y' := m_X10_shareOf) (rest := []) (ent := [.ref 33, .int x1, .int x2, .null, .null, .null, .null, .null]) hS hC rfl rfl rfl rfl rfl rfl ?_
      exact k

set_option maxRecDepth 20000 in
theorem bk_X10_share_25 {ro : pm_RO} {Q : Option Value → pm_M → Prop} {mem : pm_M} {x1 x2 : Int32} {s0 : Int64} (k : Q (some (.long s0)) mem) : pm_Ex ro m_X10_share 25 [.ref 33, .int x1, .int x2] [.long s0] mem Q := by
  have hS : pm_sig[m_X10_share]? = some _ := rfl
  have hC : pm_cod[m_X10_share]? = some _ := rfl
  refine ex_many (pc' := 33) (ls' := [.ref 33, .int x1, .int x2]) (st' := [.long s0]) (mem' := mem) hS hC 1 rfl ?_
  exact ex_ret (v := (some (.long s0))) hS hC rfl rfl rfl k

set_option maxRecDepth 20000 in
theorem bk_X10_fits_0 {ro : pm_RO} {Q : Option Value → pm_M → Prop} {mem : pm_M} {a1 a2 : Int32} (k : (pm_inb a2 4 = true) ∧ (pm_Ex ro m_X10_fits 12 [.ref 33, .int a1, .int a2, .int a1, .int ((mem 35 a2.toNatClampNeg) - 1), .null] [] mem Q)) : pm_Ex ro m_X10_fits 0 [.ref 33, .int a1, .int a2, .null, .null, .null] [] mem Q := by
  have hS : pm_sig[m_X10_fits]? = some _ := rfl
  have hC : pm_cod[m_X10_fits]? = some _ := rfl
  refine ex_many (pc' := 7) (ls' := [.ref 33, .int a1, .int a2, .int a1, .null, .null]) (st' := [.int a2, .ref 35]) (mem' := mem) hS hC 5 rfl ?_
  refine ex_grd (b := pm_inb a2 4) (pc' := 8) (ls' := [.ref 33, .int a1, .int a2, .int a1, .null, .null]) (st' := [.int (mem 35 a2.toNatClampNeg)]) (mem' := mem) hS hC rfl k.1 ?_
  replace k := k.2
  refine ex_many (pc' := 12) (ls' := [.ref 33, .int a1, .int a2, .int a1, .int ((mem 35 a2.toNatClampNeg) - 1), .null]) (st' := []) (mem' := mem) hS hC 3 rfl ?_
  exact k

set_option maxRecDepth 20000 in
theorem bk_X10_fits_12 {ro : pm_RO} {Q : Option Value → pm_M → Prop} {mem : pm_M} {x1 x2 x3 x4 : Int32} (k : (x4 < 0 → Q (some (.int (zb (¬ (¬ x3 = 0))))) mem) ∧ (¬ (x4 < 0) → (pm_inb ((60 * x2) + x4) 240 = true) ∧ ((x3 = 0 → Q (some (.int 0)) mem) ∧ (¬ (x3 = 0) → ((mem 36 (((60 * x2) + x4).toNatClampNeg)) = (-1) → (¬ (mem 41 0) = 0) ∧ (pm_Ex ro m_X10_fits 12 [.ref 33, .int x1, .int x2, .int (x3 / (mem 41 0)), .int (x4 + (-1)), .int (mem 36 (((60 * x2) + x4).toNatClampNeg))] [] mem Q)) ∧ (¬ ((mem 36 (((60 * x2) + x4).toNatClampNeg)) = (-1)) → (¬ (mem 41 0) = 0) ∧ (((mem 36 (((60 * x2) + x4).toNatClampNeg)) = (x3 - x3 / (mem 41 0) * (mem 41 0)) → (¬ (mem 41 0) = 0) ∧ (pm_Ex ro m_X10_fits 12 [.ref 33, .int x1, .int x2, .int (x3 / (mem 41 0)), .int (x4 + (-1)), .int (mem 36 (((60 * x2) + x4).toNatClampNeg))] [] mem Q)) ∧ (¬ ((mem 36 (((60 * x2) + x4).toNatClampNeg)) = (x3 - x3 / (mem 41 0) * (mem 41 0))) → Q (some (.int 0)) mem))))))) : pm_Ex ro m_X10_fits 12 [.ref 33, .int x1, .int x2, .int x3, .int x4, .null] [] mem Q := by
  have hS : pm_sig[m_X10_fits]? = some _ := rfl
  have hC : pm_cod[m_X10_fits]? = some _ := rfl
  refine ex_many (pc' := 14) (ls' := [.ref 33, .int x1, .int x2, .int x3, .int x4, .null]) (st' := [.int x4]) (mem' := mem) hS hC 1 rfl ?_
  refine ex_br (P := x4 < 0) (a := 71) (b := 17) (ls' := [.ref 33, .int x1, .int x2, .int x3, .int x4, .null]) (st' := []) (mem' := mem) hS hC rfl (fun h => ?_) (fun h => ?_)
  · replace k := k.1 (h)
    refine ex_many (pc' := 72) (ls' := [.ref 33, .int x1, .int x2, .int x3, .int x4, .null]) (st' := [.int x3]) (mem' := mem) hS hC 1 rfl ?_
    have kp49 : pm_Ex ro m_X10_fits 80 [.ref 33, .int x1, .int x2, .int x3, .int x4, .null] [.int (zb (¬ (¬ x3 = 0)))] mem Q := by
      exact ex_retz hS hC rfl rfl rfl (zb_01 _) k
    refine ex_br (P := ¬ x3 = 0) (a := 79) (b := 75) (ls' := [.ref 33, .int x1, .int x2, .int x3, .int x4, .null]) (st' := []) (mem' := mem) hS hC rfl (fun h => ?_) (fun h => ?_)
    · have kp49a : pm_Ex ro m_X10_fits 80 [.ref 33, .int x1, .int x2, .int x3, .int x4, .null] [.int 0] mem Q := pm_phi1 (f := fun z0 => pm_Ex ro m_X10_fits 80 [.ref 33, .int x1, .int x2, .int x3, .int x4, .null] [.int z0] mem Q) (zb_npos (h)) kp49
      refine ex_many (pc' := 80) (ls' := [.ref 33, .int x1, .int x2, .int x3, .int x4, .null]) (st' := [.int 0]) (mem' := mem) hS hC 1 rfl ?_
      exact kp49a
    · have kp49b : pm_Ex ro m_X10_fits 80 [.ref 33, .int x1, .int x2, .int x3, .int x4, .null] [.int 1] mem Q := pm_phi1 (f := fun z0 => pm_Ex ro m_X10_fits 80 [.ref 33, .int x1, .int x2, .int x3, .int x4, .null] [.int z0] mem Q) (zb_nneg (h)) kp49
      refine ex_many (pc' := 80) (ls' := [.ref 33, .int x1, .int x2, .int x3, .int x4, .null]) (st' := [.int 1]) (mem' := mem) hS hC 2 rfl ?_
      exact kp49b
  · replace k := k.2 (h)
    refine ex_many (pc' := 28) (ls' := [.ref 33, .int x1, .int x2, .int x3, .int x4, .null]) (st' := [.int ((60 * x2) + x4), .ref 36]) (mem' := mem) hS hC 7 rfl ?_
    refine ex_grd (b := pm_inb ((60 * x2) + x4) 240) (pc' := 29) (ls' := [.ref 33, .int x1, .int x2, .int x3, .int x4, .null]) (st' := [.int (mem 36 (((60 * x2) + x4).toNatClampNeg))]) (mem' := mem) hS hC rfl k.1 ?_
    replace k := k.2
    refine ex_many (pc' := 32) (ls' := [.ref 33, .int x1, .int x2, .int x3, .int x4, .int (mem 36 (((60 * x2) + x4).toNatClampNeg))]) (st' := [.int x3]) (mem' := mem) hS hC 2 rfl ?_
    refine ex_br (P := x3 = 0) (a := 54) (b := 35) (ls' := [.ref 33, .int x1, .int x2, .int x3, .int x4, .int (mem 36 (((60 * x2) + x4).toNatClampNeg))]) (st' := []) (mem' := mem) hS hC rfl (fun h => ?_) (fun h => ?_)
    · replace k := k.1 (h)
      refine ex_many (pc' := 55) (ls' := [.ref 33, .int x1, .int x2, .int x3, .int x4, .int (mem 36 (((60 * x2) + x4).toNatClampNeg))]) (st' := [.int 0]) (mem' := mem) hS hC 1 rfl ?_
      exact ex_ret (v := (some (.int 0))) hS hC rfl rfl rfl k
    · replace k := k.2 (h)
      refine ex_many (pc' := 38) (ls' := [.ref 33, .int x1, .int x2, .int x3, .int x4, .int (mem 36 (((60 * x2) + x4).toNatClampNeg))]) (st' := [.int (-1), .int (mem 36 (((60 * x2) + x4).toNatClampNeg))]) (mem' := mem) hS hC 2 rfl ?_
      refine ex_br (P := (mem 36 (((60 * x2) + x4).toNatClampNeg)) = (-1)) (a := 56) (b := 41) (ls' := [.ref 33, .int x1, .int x2, .int x3, .int x4, .int (mem 36 (((60 * x2) + x4).toNatClampNeg))]) (st' := []) (mem' := mem) hS hC rfl (fun h => ?_) (fun h => ?_)
      · replace k := k.1 (h)
        refine ex_many (pc' := 63) (ls' := [.ref 33, .int x1, .int x2, .int x3, .int x4, .int (mem 36 (((60 * x2) + x4).toNatClampNeg))]) (st' := [.int (mem 41 0), .int x3]) (mem' := mem) hS hC 5 rfl ?_
        refine ex_grd (b := !(decide ((mem 41 0) = 0))) (pc' := 64) (ls' := [.ref 33, .int x1, .int x2, .int x3, .int x4, .int (mem 36 (((60 * x2) + x4).toNatClampNeg))]) (st' := [.int (x3 / (mem 41 0))]) (mem' := mem) hS hC rfl (pm_nz k.1) ?_
        replace k := k.2
        refine ex_many (pc' := 12) (ls' := [.ref 33, .int x1, .int x2, .int (x3 / (mem 41 0)), .int (x4 + (-1)), .int (mem 36 (((60 * x2) + x4).toNatClampNeg))]) (st' := []) (mem' := mem) hS hC 3 rfl ?_
        exact k
      · replace k := k.2 (h)
        refine ex_many (pc' := 50) (ls' := [.ref 33, .int x1, .int x2, .int x3, .int x4, .int (mem 36 (((60 * x2) + x4).toNatClampNeg))]) (st' := [.int (mem 41 0), .int x3, .int (mem 36 (((60 * x2) + x4).toNatClampNeg))]) (mem' := mem) hS hC 6 rfl ?_
        refine ex_grd (b := !(decide ((mem 41 0) = 0))) (pc' := 51) (ls' := [.ref 33, .int x1, .int x2, .int x3, .int x4, .int (mem 36 (((60 * x2) + x4).toNatClampNeg))]) (st' := [.int (x3 - x3 / (mem 41 0) * (mem 41 0)), .int (mem 36 (((60 * x2) + x4).toNatClampNeg))]) (mem' := mem) hS hC rfl (pm_nz k.1) ?_
        replace k := k.2
        refine ex_br (P := (mem 36 (((60 * x2) + x4).toNatClampNeg)) = (x3 - x3 / (mem 41 0) * (mem 41 0))) (a := 56) (b := 54) (ls' := [.ref 33, .int x1, .int x2, .int x3, .int x4, .int (mem 36 (((60 * x2) + x4).toNatClampNeg))]) (st' := []) (mem' := mem) hS hC rfl (fun h => ?_) (fun h => ?_)
        · replace k := k.1 (h)
          refine ex_many (pc' := 63) (ls' := [.ref 33, .int x1, .int x2, .int x3, .int x4, .int (mem 36 (((60 * x2) + x4).toNatClampNeg))]) (st' := [.int (mem 41 0), .int x3]) (mem' := mem) hS hC 5 rfl ?_
          refine ex_grd (b := !(decide ((mem 41 0) = 0))) (pc' := 64) (ls' := [.ref 33, .int x1, .int x2, .int x3, .int x4, .int (mem 36 (((60 * x2) + x4).toNatClampNeg))]) (st' := [.int (x3 / (mem 41 0))]) (mem' := mem) hS hC rfl (pm_nz k.1) ?_
          replace k := k.2
          refine ex_many (pc' := 12) (ls' := [.ref 33, .int x1, .int x2, .int (x3 / (mem 41 0)), .int (x4 + (-1)), .int (mem 36 (((60 * x2) + x4).toNatClampNeg))]) (st' := []) (mem' := mem) hS hC 3 rfl ?_
          exact k
        · replace k := k.2 (h)
          refine ex_many (pc' := 55) (ls' := [.ref 33, .int x1, .int x2, .int x3, .int x4, .int (mem 36 (((60 * x2) + x4).toNatClampNeg))]) (st' := [.int 0]) (mem' := mem) hS hC 1 rfl ?_
          exact ex_ret (v := (some (.int 0))) hS hC rfl rfl rfl k

set_option maxRecDepth 20000 in
theorem bk_X10_smudged_0 {ro : pm_RO} {Q : Option Value → pm_M → Prop} {mem : pm_M} {a1 a2 : Int32} (k : (0 ≤ a1 ∧ a1 ≤ 3 → (0 ≤ a2 ∧ a2 ≤ 1 → (pm_inb a1 4 = true) ∧ ((0 ≤ (mem 34 a1.toNatClampNeg) → pm_Ex ro m_X10_reads 0 [.ref 33, .null] [] mem (fun v m => pm_Ex ro m_X10_smudged 36 [.ref 33, .int a1, .int a2, .null, .null, .null, .null] (v.toList ++ []) m Q)) ∧ (¬ (0 ≤ (mem 34 a1.toNatClampNeg)) → Q (some (.int ((-10) - (1 : Int32)))) (pm_up mem 33 4 (1 : Int32))))) ∧ (¬ (0 ≤ a2 ∧ a2 ≤ 1) → Q (some (.int (-2))) mem)) ∧ (¬ (0 ≤ a1 ∧ a1 ≤ 3) → Q (some (.int (-2))) mem)) : pm_Ex ro m_X10_smudged 0 [.ref 33, .int a1, .int a2, .null, .null, .null, .null] [] mem Q := by
  have hS : pm_sig[m_X10_smudged]? = some _ := rfl
  have hC : pm_cod[m_X10_smudged]? = some _ := rfl
  refine ex_many (pc' := 1) (ls' := [.ref 33, .int a1, .int a2, .null, .null, .null, .null]) (st' := [.int a1]) (mem' := mem) hS hC 1 rfl ?_
  refine ex_call (y' := m_X10_isSheet) (rest := []) (ent := [.int a1]) hS hC rfl rfl rfl rfl rfl rfl ?_
  refine bk_X10_isSheet_0 ?_
  show pm_Ex ro m_X10_smudged 4 [.ref 33, .int a1, .int a2, .null, .null, .null, .null] [.int (zb (0 ≤ a1 ∧ a1 ≤ 3))] mem Q
  refine ex_br (P := (zb (0 ≤ a1 ∧ a1 ≤ 3)) = 0) (a := 14) (b := 7) (ls' := [.ref 33, .int a1, .int a2, .null, .null, .null, .null]) (st' := []) (mem' := mem) hS hC rfl (fun h => ?_) (fun h => ?_)
  · replace k := k.2 (zb0 h)
    refine ex_many (pc' := 16) (ls' := [.ref 33, .int a1, .int a2, .null, .null, .null, .null]) (st' := [.int (-2)]) (mem' := mem) hS hC 1 rfl ?_
    exact ex_ret (v := (some (.int (-2)))) hS hC rfl rfl rfl k
  · replace k := k.1 (zb1 h)
    refine ex_many (pc' := 8) (ls' := [.ref 33, .int a1, .int a2, .null, .null, .null, .null]) (st' := [.int a2]) (mem' := mem) hS hC 1 rfl ?_
    refine ex_call (y' := m_X10_isTwo) (rest := []) (ent := [.int a2]) hS hC rfl rfl rfl rfl rfl rfl ?_
    refine bk_X10_isTwo_0 ?_
    show pm_Ex ro m_X10_smudged 11 [.ref 33, .int a1, .int a2, .null, .null, .null, .null] [.int (zb (0 ≤ a2 ∧ a2 ≤ 1))] mem Q
    refine ex_br (P := ¬ (zb (0 ≤ a2 ∧ a2 ≤ 1)) = 0) (a := 17) (b := 14) (ls' := [.ref 33, .int a1, .int a2, .null, .null, .null, .null]) (st' := []) (mem' := mem) hS hC rfl (fun h => ?_) (fun h => ?_)
    · replace k := k.1 (zb1 h)
      refine ex_many (pc' := 22) (ls' := [.ref 33, .int a1, .int a2, .null, .null, .null, .null]) (st' := [.int a1, .ref 34]) (mem' := mem) hS hC 3 rfl ?_
      refine ex_grd (b := pm_inb a1 4) (pc' := 23) (ls' := [.ref 33, .int a1, .int a2, .null, .null, .null, .null]) (st' := [.int (mem 34 a1.toNatClampNeg)]) (mem' := mem) hS hC rfl k.1 ?_
      replace k := k.2
      refine ex_br (P := 0 ≤ (mem 34 a1.toNatClampNeg)) (a := 32) (b := 26) (ls' := [.ref 33, .int a1, .int a2, .null, .null, .null, .null]) (st' := []) (mem' := mem) hS hC rfl (fun h => ?_) (fun h => ?_)
      · replace k := k.1 (h)
        refine ex_many (pc' := 33) (ls' := [.ref 33, .int a1, .int a2, .null, .null, .null, .null]) (st' := [.ref 33]) (mem' := mem) hS hC 1 rfl ?_
        refine ex_call (y' := m_X10_reads) (rest := []) (ent := [.ref 33, .null]) hS hC rfl rfl rfl rfl rfl rfl ?_
        exact k
      · replace k := k.2 (h)
        refine ex_many (pc' := 28) (ls' := [.ref 33, .int a1, .int a2, .null, .null, .null, .null]) (st' := [.int 1, .ref 33]) (mem' := mem) hS hC 2 rfl ?_
        refine ex_call (y' := m_X10_met) (rest := []) (ent := [.ref 33, .int 1]) hS hC rfl rfl rfl rfl rfl rfl ?_
        refine bk_X10_met_0 ?_
        show pm_Ex ro m_X10_smudged 31 [.ref 33, .int a1, .int a2, .null, .null, .null, .null] [.int ((-10) - (1 : Int32))] (pm_up mem 33 4 (1 : Int32)) Q
        exact ex_ret (v := (some (.int ((-10) - (1 : Int32))))) hS hC rfl rfl rfl k
    · replace k := k.2 (zb0n h)
      refine ex_many (pc' := 16) (ls' := [.ref 33, .int a1, .int a2, .null, .null, .null, .null]) (st' := [.int (-2)]) (mem' := mem) hS hC 1 rfl ?_
      exact ex_ret (v := (some (.int (-2)))) hS hC rfl rfl rfl k

set_option maxRecDepth 20000 in
theorem bk_X10_smudged_45 {ro : pm_RO} {Q : Option Value → pm_M → Prop} {mem : pm_M} {x1 x2 x3 x4 x5 : Int32} (k : ((((1 : Int32) <<< ((mem 33 8) &&& 31)) - 1) < x5 → Q (some (.int (if ¬ x2 = 0 then x4 else x3 : Int32))) mem) ∧ (¬ ((((1 : Int32) <<< ((mem 33 8) &&& 31)) - 1) < x5) → pm_Ex ro m_X10_sumOf 0 [.ref 33, .int x5, .null, .null] [] mem (fun v m => pm_Ex ro m_X10_smudged 62 [.ref 33, .int x1, .int x2, .int x3, .int x4, .int x5, .null] (v.toList ++ [.ref 33, .ref 33]) m Q))) : pm_Ex ro m_X10_smudged 45 [.ref 33, .int x1, .int x2, .int x3, .int x4, .int x5, .null] [] mem Q := by
  have hS : pm_sig[m_X10_smudged]? = some _ := rfl
  have hC : pm_cod[m_X10_smudged]? = some _ := rfl
  refine ex_many (pc' := 48) (ls' := [.ref 33, .int x1, .int x2, .int x3, .int x4, .int x5, .null]) (st' := [.ref 33, .int x5]) (mem' := mem) hS hC 2 rfl ?_
  refine ex_call (y' := m_X10_whole) (rest := [.int x5]) (ent := [.ref 33]) hS hC rfl rfl rfl rfl rfl rfl ?_
  refine bk_X10_whole_0 ?_
  show pm_Ex ro m_X10_smudged 51 [.ref 33, .int x1, .int x2, .int x3, .int x4, .int x5, .null] [.int (((1 : Int32) <<< ((mem 33 8) &&& 31)) - 1), .int x5] mem Q
  refine ex_br (P := (((1 : Int32) <<< ((mem 33 8) &&& 31)) - 1) < x5) (a := 110) (b := 54) (ls' := [.ref 33, .int x1, .int x2, .int x3, .int x4, .int x5, .null]) (st' := []) (mem' := mem) hS hC rfl (fun h => ?_) (fun h => ?_)
  · replace k := k.1 (h)
    refine ex_many (pc' := 111) (ls' := [.ref 33, .int x1, .int x2, .int x3, .int x4, .int x5, .null]) (st' := [.int x2]) (mem' := mem) hS hC 1 rfl ?_
    have kp50 : pm_Ex ro m_X10_smudged 120 [.ref 33, .int x1, .int x2, .int x3, .int x4, .int x5, .null] [.int (if ¬ x2 = 0 then x4 else x3 : Int32)] mem Q := by
      exact ex_ret (v := (some (.int (if ¬ x2 = 0 then x4 else x3 : Int32)))) hS hC rfl rfl rfl k
    refine ex_br (P := ¬ x2 = 0) (a := 118) (b := 114) (ls' := [.ref 33, .int x1, .int x2, .int x3, .int x4, .int x5, .null]) (st' := []) (mem' := mem) hS hC rfl (fun h => ?_) (fun h => ?_)
    · have kp50a : pm_Ex ro m_X10_smudged 120 [.ref 33, .int x1, .int x2, .int x3, .int x4, .int x5, .null] [.int x4] mem Q := pm_phi1 (f := fun z0 => pm_Ex ro m_X10_smudged 120 [.ref 33, .int x1, .int x2, .int x3, .int x4, .int x5, .null] [.int z0] mem Q) (if_pos (h)) kp50
      refine ex_many (pc' := 120) (ls' := [.ref 33, .int x1, .int x2, .int x3, .int x4, .int x5, .null]) (st' := [.int x4]) (mem' := mem) hS hC 1 rfl ?_
      exact kp50a
    · have kp50b : pm_Ex ro m_X10_smudged 120 [.ref 33, .int x1, .int x2, .int x3, .int x4, .int x5, .null] [.int x3] mem Q := pm_phi1 (f := fun z0 => pm_Ex ro m_X10_smudged 120 [.ref 33, .int x1, .int x2, .int x3, .int x4, .int x5, .null] [.int z0] mem Q) (if_neg (h)) kp50
      refine ex_many (pc' := 120) (ls' := [.ref 33, .int x1, .int x2, .int x3, .int x4, .int x5, .null]) (st' := [.int x3]) (mem' := mem) hS hC 2 rfl ?_
      exact kp50b
  · replace k := k.2 (h)
    refine ex_many (pc' := 59) (ls' := [.ref 33, .int x1, .int x2, .int x3, .int x4, .int x5, .null]) (st' := [.int x5, .ref 33, .ref 33, .ref 33]) (mem' := mem) hS hC 4 rfl ?_
    refine ex_call (y' := m_X10_sumOf) (rest := [.ref 33, .ref 33]) (ent := [.ref 33, .int x5, .null, .null]) hS hC rfl rfl rfl rfl rfl rfl ?_
    exact k

set_option maxRecDepth 20000 in
theorem bk_X10_smudged_36 {ro : pm_RO} {Q : Option Value → pm_M → Prop} {mem : pm_M} {x1 x2 s0 : Int32} (k : pm_Ex ro m_X10_smudged 45 [.ref 33, .int x1, .int x2, .int 0, .int (-1), .int 1, .null] [] mem Q) : pm_Ex ro m_X10_smudged 36 [.ref 33, .int x1, .int x2, .null, .null, .null, .null] [.int s0] mem Q := by
  have hS : pm_sig[m_X10_smudged]? = some _ := rfl
  have hC : pm_cod[m_X10_smudged]? = some _ := rfl
  refine ex_many (pc' := 45) (ls' := [.ref 33, .int x1, .int x2, .int 0, .int (-1), .int 1, .null]) (st' := []) (mem' := mem) hS hC 7 rfl ?_
  exact k

set_option maxRecDepth 20000 in
theorem bk_X10_smudged_62 {ro : pm_RO} {Q : Option Value → pm_M → Prop} {mem : pm_M} {x1 x2 x3 x4 x5 s0 : Int32} (k : pm_Ex ro m_X10_paidFor 0 [.ref 33, .int s0, .null, .null, .null, .null] [] mem (fun v m => pm_Ex ro m_X10_smudged 65 [.ref 33, .int x1, .int x2, .int x3, .int x4, .int x5, .null] (v.toList ++ [.ref 33]) m Q)) : pm_Ex ro m_X10_smudged 62 [.ref 33, .int x1, .int x2, .int x3, .int x4, .int x5, .null] [.int s0, .ref 33, .ref 33] mem Q := by
  have hS : pm_sig[m_X10_smudged]? = some _ := rfl
  have hC : pm_cod[m_X10_smudged]? = some _ := rfl
  refine ex_call (y' := m_X10_paidFor) (rest := [.ref 33]) (ent := [.ref 33, .int s0, .null, .null, .null, .null]) hS hC rfl rfl rfl rfl rfl rfl ?_
  exact k

set_option maxRecDepth 20000 in
theorem bk_X10_smudged_65 {ro : pm_RO} {Q : Option Value → pm_M → Prop} {mem : pm_M} {x1 x2 x3 x4 x5 s0 : Int32} (k : pm_Ex ro m_X10_fits 0 [.ref 33, .int s0, .int x1, .null, .null, .null] [] mem (fun v m => pm_Ex ro m_X10_smudged 69 [.ref 33, .int x1, .int x2, .int x3, .int x4, .int x5, .null] (v.toList ++ []) m Q)) : pm_Ex ro m_X10_smudged 65 [.ref 33, .int x1, .int x2, .int x3, .int x4, .int x5, .null] [.int s0, .ref 33] mem Q := by
  have hS : pm_sig[m_X10_smudged]? = some _ := rfl
  have hC : pm_cod[m_X10_smudged]? = some _ := rfl
  refine ex_many (pc' := 66) (ls' := [.ref 33, .int x1, .int x2, .int x3, .int x4, .int x5, .null]) (st' := [.int x1, .int s0, .ref 33]) (mem' := mem) hS hC 1 rfl ?_
  refine ex_call (y' := m_X10_fits) (rest := []) (ent := [.ref 33, .int s0, .int x1, .null, .null, .null]) hS hC rfl rfl rfl rfl rfl rfl ?_
  exact k

set_option maxRecDepth 20000 in
theorem bk_X10_smudged_69 {ro : pm_RO} {Q : Option Value → pm_M → Prop} {mem : pm_M} {x1 x2 x3 x4 x5 s0 : Int32} (k : pm_Ex ro m_X10_smudged 45 [.ref 33, .int x1, .int x2, .int (x3 + (zb (¬ (s0 = 0)))), .int (if s0 = 0 then x4 else (if ¬ x4 = (-1) then x4 else x5 : Int32) : Int32), .int (x5 + 1), .int s0] [] mem Q) : pm_Ex ro m_X10_smudged 69 [.ref 33, .int x1, .int x2, .int x3, .int x4, .int x5, .null] [.int s0] mem Q := by
  have hS : pm_sig[m_X10_smudged]? = some _ := rfl
  have hC : pm_cod[m_X10_smudged]? = some _ := rfl
  refine ex_many (pc' := 73) (ls' := [.ref 33, .int x1, .int x2, .int x3, .int x4, .int x5, .int s0]) (st' := [.int s0]) (mem' := mem) hS hC 2 rfl ?_
  have kp53 : pm_Ex ro m_X10_smudged 89 [.ref 33, .int x1, .int x2, .int x3, .int x4, .int x5, .int s0] [.int (if s0 = 0 then x4 else (if ¬ x4 = (-1) then x4 else x5 : Int32) : Int32)] mem Q := by
    refine ex_many (pc' := 94) (ls' := [.ref 33, .int x1, .int x2, .int x3, .int (if s0 = 0 then x4 else (if ¬ x4 = (-1) then x4 else x5 : Int32) : Int32), .int x5, .int s0]) (st' := [.int s0, .int x3]) (mem' := mem) hS hC 3 rfl ?_
    have kp52 : pm_Ex ro m_X10_smudged 102 [.ref 33, .int x1, .int x2, .int x3, .int (if s0 = 0 then x4 else (if ¬ x4 = (-1) then x4 else x5 : Int32) : Int32), .int x5, .int s0] [.int (zb (¬ (s0 = 0))), .int x3] mem Q := by
      refine ex_many (pc' := 45) (ls' := [.ref 33, .int x1, .int x2, .int (x3 + (zb (¬ (s0 = 0)))), .int (if s0 = 0 then x4 else (if ¬ x4 = (-1) then x4 else x5 : Int32) : Int32), .int (x5 + 1), .int s0]) (st' := []) (mem' := mem) hS hC 4 rfl ?_
      exact k
    refine ex_br (P := s0 = 0) (a := 101) (b := 97) (ls' := [.ref 33, .int x1, .int x2, .int x3, .int (if s0 = 0 then x4 else (if ¬ x4 = (-1) then x4 else x5 : Int32) : Int32), .int x5, .int s0]) (st' := [.int x3]) (mem' := mem) hS hC rfl (fun h => ?_) (fun h => ?_)
    · have kp52a : pm_Ex ro m_X10_smudged 102 [.ref 33, .int x1, .int x2, .int x3, .int (if s0 = 0 then x4 else (if ¬ x4 = (-1) then x4 else x5 : Int32) : Int32), .int x5, .int s0] [.int 0, .int x3] mem Q := pm_phi1 (f := fun z0 => pm_Ex ro m_X10_smudged 102 [.ref 33, .int x1, .int x2, .int x3, .int (if s0 = 0 then x4 else (if ¬ x4 = (-1) then x4 else x5 : Int32) : Int32), .int x5, .int s0] [.int z0, .int x3] mem Q) (zb_npos (h)) kp52
      refine ex_many (pc' := 102) (ls' := [.ref 33, .int x1, .int x2, .int x3, .int (if s0 = 0 then x4 else (if ¬ x4 = (-1) then x4 else x5 : Int32) : Int32), .int x5, .int s0]) (st' := [.int 0, .int x3]) (mem' := mem) hS hC 1 rfl ?_
      exact kp52a
    · have kp52b : pm_Ex ro m_X10_smudged 102 [.ref 33, .int x1, .int x2, .int x3, .int (if s0 = 0 then x4 else (if ¬ x4 = (-1) then x4 else x5 : Int32) : Int32), .int x5, .int s0] [.int 1, .int x3] mem Q := pm_phi1 (f := fun z0 => pm_Ex ro m_X10_smudged 102 [.ref 33, .int x1, .int x2, .int x3, .int (if s0 = 0 then x4 else (if ¬ x4 = (-1) then x4 else x5 : Int32) : Int32), .int x5, .int s0] [.int z0, .int x3] mem Q) (zb_nneg (h)) kp52
      refine ex_many (pc' := 102) (ls' := [.ref 33, .int x1, .int x2, .int x3, .int (if s0 = 0 then x4 else (if ¬ x4 = (-1) then x4 else x5 : Int32) : Int32), .int x5, .int s0]) (st' := [.int 1, .int x3]) (mem' := mem) hS hC 2 rfl ?_
      exact kp52b
  refine ex_br (P := s0 = 0) (a := 87) (b := 76) (ls' := [.ref 33, .int x1, .int x2, .int x3, .int x4, .int x5, .int s0]) (st' := []) (mem' := mem) hS hC rfl (fun h => ?_) (fun h => ?_)
  · have kp53a : pm_Ex ro m_X10_smudged 89 [.ref 33, .int x1, .int x2, .int x3, .int x4, .int x5, .int s0] [.int x4] mem Q := pm_phi1 (f := fun z0 => pm_Ex ro m_X10_smudged 89 [.ref 33, .int x1, .int x2, .int x3, .int x4, .int x5, .int s0] [.int z0] mem Q) (if_pos (h)) kp53
    refine ex_many (pc' := 89) (ls' := [.ref 33, .int x1, .int x2, .int x3, .int x4, .int x5, .int s0]) (st' := [.int x4]) (mem' := mem) hS hC 1 rfl ?_
    exact kp53a
  · have kp53b : pm_Ex ro m_X10_smudged 89 [.ref 33, .int x1, .int x2, .int x3, .int x4, .int x5, .int s0] [.int (if ¬ x4 = (-1) then x4 else x5 : Int32)] mem Q := pm_phi1 (f := fun z0 => pm_Ex ro m_X10_smudged 89 [.ref 33, .int x1, .int x2, .int x3, .int x4, .int x5, .int s0] [.int z0] mem Q) (if_neg (h)) kp53
    have kp51 : pm_Ex ro m_X10_smudged 89 [.ref 33, .int x1, .int x2, .int x3, .int x4, .int x5, .int s0] [.int (if ¬ x4 = (-1) then x4 else x5 : Int32)] mem Q := by
      exact kp53b
    refine ex_many (pc' := 79) (ls' := [.ref 33, .int x1, .int x2, .int x3, .int x4, .int x5, .int s0]) (st' := [.int (-1), .int x4]) (mem' := mem) hS hC 2 rfl ?_
    refine ex_br (P := ¬ x4 = (-1)) (a := 87) (b := 82) (ls' := [.ref 33, .int x1, .int x2, .int x3, .int x4, .int x5, .int s0]) (st' := []) (mem' := mem) hS hC rfl (fun h => ?_) (fun h => ?_)
    · have kp51a : pm_Ex ro m_X10_smudged 89 [.ref 33, .int x1, .int x2, .int x3, .int x4, .int x5, .int s0] [.int x4] mem Q := pm_phi1 (f := fun z0 => pm_Ex ro m_X10_smudged 89 [.ref 33, .int x1, .int x2, .int x3, .int x4, .int x5, .int s0] [.int z0] mem Q) (if_pos (h)) kp51
      refine ex_many (pc' := 89) (ls' := [.ref 33, .int x1, .int x2, .int x3, .int x4, .int x5, .int s0]) (st' := [.int x4]) (mem' := mem) hS hC 1 rfl ?_
      exact kp51a
    · have kp51b : pm_Ex ro m_X10_smudged 89 [.ref 33, .int x1, .int x2, .int x3, .int x4, .int x5, .int s0] [.int x5] mem Q := pm_phi1 (f := fun z0 => pm_Ex ro m_X10_smudged 89 [.ref 33, .int x1, .int x2, .int x3, .int x4, .int x5, .int s0] [.int z0] mem Q) (if_neg (h)) kp51
      refine ex_many (pc' := 89) (ls' := [.ref 33, .int x1, .int x2, .int x3, .int x4, .int x5, .int s0]) (st' := [.int x5]) (mem' := mem) hS hC 2 rfl ?_
      exact kp51b

set_option maxRecDepth 20000 in
theorem bk_X10_value_0 {ro : pm_RO} {Q : Option Value → pm_M → Prop} {mem : pm_M} {a1 a2 a3 : Int32} (k : (a1 < a3 → (pm_inb ((2 * a1) + a2) 420 = true) ∧ (Q (some (.int (mem 48 (((2 * a1) + a2).toNatClampNeg)))) mem)) ∧ (¬ (a1 < a3) → pm_Ex ro m_X10_paidFor 0 [.ref 33, .int a1, .null, .null, .null, .null] [] mem (fun v m => pm_Ex ro m_X10_value 10 [.ref 33, .int a1, .int a2, .int a3] (v.toList ++ []) m Q))) : pm_Ex ro m_X10_value 0 [.ref 33, .int a1, .int a2, .int a3] [] mem Q := by
  have hS : pm_sig[m_X10_value]? = some _ := rfl
  have hC : pm_cod[m_X10_value]? = some _ := rfl
  refine ex_many (pc' := 2) (ls' := [.ref 33, .int a1, .int a2, .int a3]) (st' := [.int a3, .int a1]) (mem' := mem) hS hC 2 rfl ?_
  refine ex_br (P := a1 < a3) (a := 13) (b := 5) (ls' := [.ref 33, .int a1, .int a2, .int a3]) (st' := []) (mem' := mem) hS hC rfl (fun h => ?_) (fun h => ?_)
  · replace k := k.1 (h)
    refine ex_many (pc' := 22) (ls' := [.ref 33, .int a1, .int a2, .int a3]) (st' := [.int ((2 * a1) + a2), .ref 48]) (mem' := mem) hS hC 7 rfl ?_
    refine ex_grd (b := pm_inb ((2 * a1) + a2) 420) (pc' := 23) (ls' := [.ref 33, .int a1, .int a2, .int a3]) (st' := [.int (mem 48 (((2 * a1) + a2).toNatClampNeg))]) (mem' := mem) hS hC rfl k.1 ?_
    replace k := k.2
    exact ex_ret (v := (some (.int (mem 48 (((2 * a1) + a2).toNatClampNeg))))) hS hC rfl rfl rfl k
  · replace k := k.2 (h)
    refine ex_many (pc' := 7) (ls' := [.ref 33, .int a1, .int a2, .int a3]) (st' := [.int a1, .ref 33]) (mem' := mem) hS hC 2 rfl ?_
    refine ex_call (y' := m_X10_paidFor) (rest := []) (ent := [.ref 33, .int a1, .null, .null, .null, .null]) hS hC rfl rfl rfl rfl rfl rfl ?_
    exact k

set_option maxRecDepth 20000 in
theorem bk_X10_value_10 {ro : pm_RO} {Q : Option Value → pm_M → Prop} {mem : pm_M} {x1 x2 x3 s0 : Int32} (k : Q (some (.int s0)) mem) : pm_Ex ro m_X10_value 10 [.ref 33, .int x1, .int x2, .int x3] [.int s0] mem Q := by
  have hS : pm_sig[m_X10_value]? = some _ := rfl
  have hC : pm_cod[m_X10_value]? = some _ := rfl
  refine ex_many (pc' := 23) (ls' := [.ref 33, .int x1, .int x2, .int x3]) (st' := [.int s0]) (mem' := mem) hS hC 1 rfl ?_
  exact ex_ret (v := (some (.int s0))) hS hC rfl rfl rfl k

set_option maxRecDepth 20000 in
theorem bk_X10_gameOf_0 {ro : pm_RO} {Q : Option Value → pm_M → Prop} {mem : pm_M} {a1 a2 a3 a4 : Int32} (k : (a1 < a3 → pm_Ex ro m_X10_gameOf 28 [.ref 33, .int a1, .int a2, .int a3, .int a4, .int 0, .int (a3 - 1), .null, .null, .null, .null, .null, .null] [] mem Q) ∧ (¬ (a1 < a3) → (¬ a4 = 0 → Q (some (.int 0)) mem) ∧ (¬ (¬ a4 = 0) → pm_Ex ro m_X10_paidFor 0 [.ref 33, .int a1, .null, .null, .null, .null] [] mem (fun v m => pm_Ex ro m_X10_gameOf 15 [.ref 33, .int a1, .int a2, .int a3, .int a4, .null, .null, .null, .null, .null, .null, .null, .null] (v.toList ++ []) m Q)))) : pm_Ex ro m_X10_gameOf 0 [.ref 33, .int a1, .int a2, .int a3, .int a4, .null, .null, .null, .null, .null, .null, .null, .null] [] mem Q := by
  have hS : pm_sig[m_X10_gameOf]? = some _ := rfl
  have hC : pm_cod[m_X10_gameOf]? = some _ := rfl
  refine ex_many (pc' := 2) (ls' := [.ref 33, .int a1, .int a2, .int a3, .int a4, .null, .null, .null, .null, .null, .null, .null, .null]) (st' := [.int a3, .int a1]) (mem' := mem) hS hC 2 rfl ?_
  refine ex_br (P := a1 < a3) (a := 20) (b := 5) (ls' := [.ref 33, .int a1, .int a2, .int a3, .int a4, .null, .null, .null, .null, .null, .null, .null, .null]) (st' := []) (mem' := mem) hS hC rfl (fun h => ?_) (fun h => ?_)
  · replace k := k.1 (h)
    refine ex_many (pc' := 28) (ls' := [.ref 33, .int a1, .int a2, .int a3, .int a4, .int 0, .int (a3 - 1), .null, .null, .null, .null, .null, .null]) (st' := []) (mem' := mem) hS hC 6 rfl ?_
    exact k
  · replace k := k.2 (h)
    refine ex_many (pc' := 7) (ls' := [.ref 33, .int a1, .int a2, .int a3, .int a4, .null, .null, .null, .null, .null, .null, .null, .null]) (st' := [.int a4]) (mem' := mem) hS hC 1 rfl ?_
    refine ex_br (P := ¬ a4 = 0) (a := 18) (b := 10) (ls' := [.ref 33, .int a1, .int a2, .int a3, .int a4, .null, .null, .null, .null, .null, .null, .null, .null]) (st' := []) (mem' := mem) hS hC rfl (fun h => ?_) (fun h => ?_)
    · replace k := k.1 (h)
      refine ex_many (pc' := 19) (ls' := [.ref 33, .int a1, .int a2, .int a3, .int a4, .null, .null, .null, .null, .null, .null, .null, .null]) (st' := [.int 0]) (mem' := mem) hS hC 1 rfl ?_
      exact ex_ret (v := (some (.int 0))) hS hC rfl rfl rfl k
    · replace k := k.2 (h)
      refine ex_many (pc' := 12) (ls' := [.ref 33, .int a1, .int a2, .int a3, .int a4, .null, .null, .null, .null, .null, .null, .null, .null]) (st' := [.int a1, .ref 33]) (mem' := mem) hS hC 2 rfl ?_
      refine ex_call (y' := m_X10_paidFor) (rest := []) (ent := [.ref 33, .int a1, .null, .null, .null, .null]) hS hC rfl rfl rfl rfl rfl rfl ?_
      exact k

set_option maxRecDepth 20000 in
theorem bk_X10_gameOf_28 {ro : pm_RO} {Q : Option Value → pm_M → Prop} {mem : pm_M} {x1 x2 x3 x4 x5 x6 : Int32} (k : (x6 < x1 → (¬ x4 = 0 → Q (some (.int x5)) mem) ∧ (¬ (¬ x4 = 0) → (pm_inb (2 * x1) 420 = true) ∧ (Q (some (.int (mem 48 ((2 * x1).toNatClampNeg)))) mem))) ∧ (¬ (x6 < x1) → pm_Ex ro m_X10_gameOf 37 [.ref 33, .int x1, .int x2, .int x3, .int x4, .int x5, .int x6, .int 0, .null, .null, .null, .null, .null] [] mem Q)) : pm_Ex ro m_X10_gameOf 28 [.ref 33, .int x1, .int x2, .int x3, .int x4, .int x5, .int x6, .null, .null, .null, .null, .null, .null] [] mem Q := by
  have hS : pm_sig[m_X10_gameOf]? = some _ := rfl
  have hC : pm_cod[m_X10_gameOf]? = some _ := rfl
  refine ex_many (pc' := 31) (ls' := [.ref 33, .int x1, .int x2, .int x3, .int x4, .int x5, .int x6, .null, .null, .null, .null, .null, .null]) (st' := [.int x1, .int x6]) (mem' := mem) hS hC 2 rfl ?_
  refine ex_br (P := x6 < x1) (a := 193) (b := 34) (ls' := [.ref 33, .int x1, .int x2, .int x3, .int x4, .int x5, .int x6, .null, .null, .null, .null, .null, .null]) (st' := []) (mem' := mem) hS hC rfl (fun h => ?_) (fun h => ?_)
  · replace k := k.1 (h)
    refine ex_many (pc' := 195) (ls' := [.ref 33, .int x1, .int x2, .int x3, .int x4, .int x5, .int x6, .null, .null, .null, .null, .null, .null]) (st' := [.int x4]) (mem' := mem) hS hC 1 rfl ?_
    refine ex_br (P := ¬ x4 = 0) (a := 209) (b := 198) (ls' := [.ref 33, .int x1, .int x2, .int x3, .int x4, .int x5, .int x6, .null, .null, .null, .null, .null, .null]) (st' := []) (mem' := mem) hS hC rfl (fun h => ?_) (fun h => ?_)
    · replace k := k.1 (h)
      refine ex_many (pc' := 211) (ls' := [.ref 33, .int x1, .int x2, .int x3, .int x4, .int x5, .int x6, .null, .null, .null, .null, .null, .null]) (st' := [.int x5]) (mem' := mem) hS hC 1 rfl ?_
      exact ex_ret (v := (some (.int x5))) hS hC rfl rfl rfl k
    · replace k := k.2 (h)
      refine ex_many (pc' := 205) (ls' := [.ref 33, .int x1, .int x2, .int x3, .int x4, .int x5, .int x6, .null, .null, .null, .null, .null, .null]) (st' := [.int (2 * x1), .ref 48]) (mem' := mem) hS hC 5 rfl ?_
      refine ex_grd (b := pm_inb (2 * x1) 420) (pc' := 206) (ls' := [.ref 33, .int x1, .int x2, .int x3, .int x4, .int x5, .int x6, .null, .null, .null, .null, .null, .null]) (st' := [.int (mem 48 ((2 * x1).toNatClampNeg))]) (mem' := mem) hS hC rfl k.1 ?_
      replace k := k.2
      refine ex_many (pc' := 211) (ls' := [.ref 33, .int x1, .int x2, .int x3, .int x4, .int x5, .int x6, .null, .null, .null, .null, .null, .null]) (st' := [.int (mem 48 ((2 * x1).toNatClampNeg))]) (mem' := mem) hS hC 1 rfl ?_
      exact ex_ret (v := (some (.int (mem 48 ((2 * x1).toNatClampNeg))))) hS hC rfl rfl rfl k
  · replace k := k.2 (h)
    refine ex_many (pc' := 37) (ls' := [.ref 33, .int x1, .int x2, .int x3, .int x4, .int x5, .int x6, .int 0, .null, .null, .null, .null, .null]) (st' := []) (mem' := mem) hS hC 2 rfl ?_
    exact k

set_option maxRecDepth 20000 in
theorem bk_X10_gameOf_37 {ro : pm_RO} {Q : Option Value → pm_M → Prop} {mem : pm_M} {x1 x2 x3 x4 x5 x6 x7 : Int32} (k : (2 ≤ x7 → pm_Ex ro m_X10_gameOf 28 [.ref 33, .int x1, .int x2, .int x3, .int x4, .int x5, .int (x6 + (-1)), .int x7, .null, .null, .null, .null, .null] [] mem Q) ∧ (¬ (2 ≤ x7) → pm_Ex ro m_X10_gameOf 52 [.ref 33, .int x1, .int x2, .int x3, .int x4, .int x5, .int x6, .int x7, .int (-1), .int 0, .int 1, .null, .null] [] mem Q)) : pm_Ex ro m_X10_gameOf 37 [.ref 33, .int x1, .int x2, .int x3, .int x4, .int x5, .int x6, .int x7, .null, .null, .null, .null, .null] [] mem Q := by
  have hS : pm_sig[m_X10_gameOf]? = some _ := rfl
  have hC : pm_cod[m_X10_gameOf]? = some _ := rfl
  refine ex_many (pc' := 40) (ls' := [.ref 33, .int x1, .int x2, .int x3, .int x4, .int x5, .int x6, .int x7, .null, .null, .null, .null, .null]) (st' := [.int 2, .int x7]) (mem' := mem) hS hC 2 rfl ?_
  refine ex_br (P := 2 ≤ x7) (a := 187) (b := 43) (ls' := [.ref 33, .int x1, .int x2, .int x3, .int x4, .int x5, .int x6, .int x7, .null, .null, .null, .null, .null]) (st' := []) (mem' := mem) hS hC rfl (fun h => ?_) (fun h => ?_)
  · replace k := k.1 (h)
    refine ex_many (pc' := 28) (ls' := [.ref 33, .int x1, .int x2, .int x3, .int x4, .int x5, .int (x6 + (-1)), .int x7, .null, .null, .null, .null, .null]) (st' := []) (mem' := mem) hS hC 2 rfl ?_
    exact k
  · replace k := k.2 (h)
    refine ex_many (pc' := 52) (ls' := [.ref 33, .int x1, .int x2, .int x3, .int x4, .int x5, .int x6, .int x7, .int (-1), .int 0, .int 1, .null, .null]) (st' := []) (mem' := mem) hS hC 6 rfl ?_
    exact k

set_option maxRecDepth 20000 in
theorem bk_X10_gameOf_52 {ro : pm_RO} {Q : Option Value → pm_M → Prop} {mem : pm_M} {x1 x2 x3 x4 x5 x6 x7 x8 x9 x10 : Int32} (k : (10 ≤ x10 → (pm_inb ((2 * x6) + x7) 420 = true) ∧ (pm_Ex ro m_X10_gameOf 37 [.ref 33, .int x1, .int x2, .int x3, .int x4, .int (if ¬ x7 = 0 then x5 else x9 : Int32), .int x6, .int (x7 + 1), .int x8, .int x9, .int x10, .null, .null] [] (pm_up mem 48 (((2 * x6) + x7).toNatClampNeg) x8) Q)) ∧ (¬ (10 ≤ x10) → (¬ (¬ ((x2 >>> (x10 &&& 31)) &&& 1) = 1) → pm_Ex ro m_X10_value 0 [.ref 33, .int (x6 + x10), .int (1 - x7), .int x3] [] mem (fun v m => pm_Ex ro m_X10_gameOf 82 [.ref 33, .int x1, .int x2, .int x3, .int x4, .int x5, .int x6, .int x7, .int x8, .int x9, .int x10, .null, .null] (v.toList ++ []) m Q)) ∧ (¬ (¬ (¬ ((x2 >>> (x10 &&& 31)) &&& 1) = 1)) → pm_Ex ro m_X10_gameOf 52 [.ref 33, .int x1, .int x2, .int x3, .int x4, .int x5, .int x6, .int x7, .int x8, .int x9, .int (x10 + 1), .null, .null] [] mem Q))) : pm_Ex ro m_X10_gameOf 52 [.ref 33, .int x1, .int x2, .int x3, .int x4, .int x5, .int x6, .int x7, .int x8, .int x9, .int x10, .null, .null] [] mem Q := by
  have hS : pm_sig[m_X10_gameOf]? = some _ := rfl
  have hC : pm_cod[m_X10_gameOf]? = some _ := rfl
  refine ex_many (pc' := 56) (ls' := [.ref 33, .int x1, .int x2, .int x3, .int x4, .int x5, .int x6, .int x7, .int x8, .int x9, .int x10, .null, .null]) (st' := [.int 10, .int x10]) (mem' := mem) hS hC 2 rfl ?_
  refine ex_br (P := 10 ≤ x10) (a := 153) (b := 59) (ls' := [.ref 33, .int x1, .int x2, .int x3, .int x4, .int x5, .int x6, .int x7, .int x8, .int x9, .int x10, .null, .null]) (st' := []) (mem' := mem) hS hC rfl (fun h => ?_) (fun h => ?_)
  · replace k := k.1 (h)
    refine ex_many (pc' := 166) (ls' := [.ref 33, .int x1, .int x2, .int x3, .int x4, .int x5, .int x6, .int x7, .int x8, .int x9, .int x10, .null, .null]) (st' := [.int x8, .int ((2 * x6) + x7), .ref 48]) (mem' := mem) hS hC 8 rfl ?_
    refine ex_grd (b := pm_inb ((2 * x6) + x7) 420) (pc' := 167) (ls' := [.ref 33, .int x1, .int x2, .int x3, .int x4, .int x5, .int x6, .int x7, .int x8, .int x9, .int x10, .null, .null]) (st' := []) (mem' := pm_up mem 48 (((2 * x6) + x7).toNatClampNeg) x8) hS hC rfl k.1 ?_
    replace k := k.2
    refine ex_many (pc' := 169) (ls' := [.ref 33, .int x1, .int x2, .int x3, .int x4, .int x5, .int x6, .int x7, .int x8, .int x9, .int x10, .null, .null]) (st' := [.int x7]) (mem' := pm_up mem 48 (((2 * x6) + x7).toNatClampNeg) x8) hS hC 1 rfl ?_
    have kp54 : pm_Ex ro m_X10_gameOf 179 [.ref 33, .int x1, .int x2, .int x3, .int x4, .int x5, .int x6, .int x7, .int x8, .int x9, .int x10, .null, .null] [.int (if ¬ x7 = 0 then x5 else x9 : Int32)] (pm_up mem 48 (((2 * x6) + x7).toNatClampNeg) x8) Q := by
      refine ex_many (pc' := 37) (ls' := [.ref 33, .int x1, .int x2, .int x3, .int x4, .int (if ¬ x7 = 0 then x5 else x9 : Int32), .int x6, .int (x7 + 1), .int x8, .int x9, .int x10, .null, .null]) (st' := []) (mem' := pm_up mem 48 (((2 * x6) + x7).toNatClampNeg) x8) hS hC 3 rfl ?_
      exact k
    refine ex_br (P := ¬ x7 = 0) (a := 177) (b := 172) (ls' := [.ref 33, .int x1, .int x2, .int x3, .int x4, .int x5, .int x6, .int x7, .int x8, .int x9, .int x10, .null, .null]) (st' := []) (mem' := pm_up mem 48 (((2 * x6) + x7).toNatClampNeg) x8) hS hC rfl (fun h => ?_) (fun h => ?_)
    · have kp54a : pm_Ex ro m_X10_gameOf 179 [.ref 33, .int x1, .int x2, .int x3, .int x4, .int x5, .int x6, .int x7, .int x8, .int x9, .int x10, .null, .null] [.int x5] (pm_up mem 48 (((2 * x6) + x7).toNatClampNeg) x8) Q := pm_phi1 (f := fun z0 => pm_Ex ro m_X10_gameOf 179 [.ref 33, .int x1, .int x2, .int x3, .int x4, .int x5, .int x6, .int x7, .int x8, .int x9, .int x10, .null, .null] [.int z0] (pm_up mem 48 (((2 * x6) + x7).toNatClampNeg) x8) Q) (if_pos (h)) kp54
      refine ex_many (pc' := 179) (ls' := [.ref 33, .int x1, .int x2, .int x3, .int x4, .int x5, .int x6, .int x7, .int x8, .int x9, .int x10, .null, .null]) (st' := [.int x5]) (mem' := pm_up mem 48 (((2 * x6) + x7).toNatClampNeg) x8) hS hC 1 rfl ?_
      exact kp54a
    · have kp54b : pm_Ex ro m_X10_gameOf 179 [.ref 33, .int x1, .int x2, .int x3, .int x4, .int x5, .int x6, .int x7, .int x8, .int x9, .int x10, .null, .null] [.int x9] (pm_up mem 48 (((2 * x6) + x7).toNatClampNeg) x8) Q := pm_phi1 (f := fun z0 => pm_Ex ro m_X10_gameOf 179 [.ref 33, .int x1, .int x2, .int x3, .int x4, .int x5, .int x6, .int x7, .int x8, .int x9, .int x10, .null, .null] [.int z0] (pm_up mem 48 (((2 * x6) + x7).toNatClampNeg) x8) Q) (if_neg (h)) kp54
      refine ex_many (pc' := 179) (ls' := [.ref 33, .int x1, .int x2, .int x3, .int x4, .int x5, .int x6, .int x7, .int x8, .int x9, .int x10, .null, .null]) (st' := [.int x9]) (mem' := pm_up mem 48 (((2 * x6) + x7).toNatClampNeg) x8) hS hC 2 rfl ?_
      exact kp54b
  · replace k := k.2 (h)
    refine ex_many (pc' := 62) (ls' := [.ref 33, .int x1, .int x2, .int x3, .int x4, .int x5, .int x6, .int x7, .int x8, .int x9, .int x10, .null, .null]) (st' := [.int x10, .int x2]) (mem' := mem) hS hC 2 rfl ?_
    refine ex_call (y' := m_X10_isIn) (rest := []) (ent := [.int x2, .int x10]) hS hC rfl rfl rfl rfl rfl rfl ?_
    refine bk_X10_isIn_0 ?_
    show pm_Ex ro m_X10_gameOf 65 [.ref 33, .int x1, .int x2, .int x3, .int x4, .int x5, .int x6, .int x7, .int x8, .int x9, .int x10, .null, .null] [.int (zb (¬ (¬ ((x2 >>> (x10 &&& 31)) &&& 1) = 1)))] mem Q
    refine ex_br (P := (zb (¬ (¬ ((x2 >>> (x10 &&& 31)) &&& 1) = 1))) = 0) (a := 147) (b := 68) (ls' := [.ref 33, .int x1, .int x2, .int x3, .int x4, .int x5, .int x6, .int x7, .int x8, .int x9, .int x10, .null, .null]) (st' := []) (mem' := mem) hS hC rfl (fun h => ?_) (fun h => ?_)
    · replace k := k.2 (zb0 h)
      refine ex_many (pc' := 52) (ls' := [.ref 33, .int x1, .int x2, .int x3, .int x4, .int x5, .int x6, .int x7, .int x8, .int x9, .int (x10 + 1), .null, .null]) (st' := []) (mem' := mem) hS hC 2 rfl ?_
      exact k
    · replace k := k.1 (zb1 h)
      refine ex_many (pc' := 79) (ls' := [.ref 33, .int x1, .int x2, .int x3, .int x4, .int x5, .int x6, .int x7, .int x8, .int x9, .int x10, .null, .null]) (st' := [.int x3, .int (1 - x7), .int (x6 + x10), .ref 33]) (mem' := mem) hS hC 8 rfl ?_
      refine ex_call (y' := m_X10_value) (rest := []) (ent := [.ref 33, .int (x6 + x10), .int (1 - x7), .int x3]) hS hC rfl rfl rfl rfl rfl rfl ?_
      exact k

set_option maxRecDepth 20000 in
theorem bk_X10_gameOf_15 {ro : pm_RO} {Q : Option Value → pm_M → Prop} {mem : pm_M} {x1 x2 x3 x4 s0 : Int32} (k : Q (some (.int s0)) mem) : pm_Ex ro m_X10_gameOf 15 [.ref 33, .int x1, .int x2, .int x3, .int x4, .null, .null, .null, .null, .null, .null, .null, .null] [.int s0] mem Q := by
  have hS : pm_sig[m_X10_gameOf]? = some _ := rfl
  have hC : pm_cod[m_X10_gameOf]? = some _ := rfl
  refine ex_many (pc' := 19) (ls' := [.ref 33, .int x1, .int x2, .int x3, .int x4, .null, .null, .null, .null, .null, .null, .null, .null]) (st' := [.int s0]) (mem' := mem) hS hC 1 rfl ?_
  exact ex_ret (v := (some (.int s0))) hS hC rfl rfl rfl k

set_option maxRecDepth 20000 in
theorem bk_X10_gameOf_82 {ro : pm_RO} {Q : Option Value → pm_M → Prop} {mem : pm_M} {x1 x2 x3 x4 x5 x6 x7 x8 x9 x10 s0 : Int32} (k : pm_Ex ro m_X10_gameOf 52 [.ref 33, .int x1, .int x2, .int x3, .int x4, .int x5, .int x6, .int x7, .int (if (if x8 = (-1) then 1 else (if ¬ x7 = 0 then zb (¬ (s0 ≤ x8)) else zb (¬ (x8 ≤ s0)) : Int32) : Int32) = 0 then x8 else s0 : Int32), .int (if (if x8 = (-1) then 1 else (if ¬ x7 = 0 then zb (¬ (s0 ≤ x8)) else zb (¬ (x8 ≤ s0)) : Int32) : Int32) = 0 then x9 else x10 : Int32), .int (x10 + 1), .int s0, .int (if x8 = (-1) then 1 else (if ¬ x7 = 0 then zb (¬ (s0 ≤ x8)) else zb (¬ (x8 ≤ s0)) : Int32) : Int32)] [] mem Q) : pm_Ex ro m_X10_gameOf 82 [.ref 33, .int x1, .int x2, .int x3, .int x4, .int x5, .int x6, .int x7, .int x8, .int x9, .int x10, .null, .null] [.int s0] mem Q := by
  have hS : pm_sig[m_X10_gameOf]? = some _ := rfl
  have hC : pm_cod[m_X10_gameOf]? = some _ := rfl
  refine ex_many (pc' := 87) (ls' := [.ref 33, .int x1, .int x2, .int x3, .int x4, .int x5, .int x6, .int x7, .int x8, .int x9, .int x10, .int s0, .null]) (st' := [.int (-1), .int x8]) (mem' := mem) hS hC 3 rfl ?_
  have kp60 : pm_Ex ro m_X10_gameOf 117 [.ref 33, .int x1, .int x2, .int x3, .int x4, .int x5, .int x6, .int x7, .int x8, .int x9, .int x10, .int s0, .null] [.int (if x8 = (-1) then 1 else (if ¬ x7 = 0 then zb (¬ (s0 ≤ x8)) else zb (¬ (x8 ≤ s0)) : Int32) : Int32)] mem Q := by
    refine ex_many (pc' := 121) (ls' := [.ref 33, .int x1, .int x2, .int x3, .int x4, .int x5, .int x6, .int x7, .int x8, .int x9, .int x10, .int s0, .int (if x8 = (-1) then 1 else (if ¬ x7 = 0 then zb (¬ (s0 ≤ x8)) else zb (¬ (x8 ≤ s0)) : Int32) : Int32)]) (st' := [.int (if x8 = (-1) then 1 else (if ¬ x7 = 0 then zb (¬ (s0 ≤ x8)) else zb (¬ (x8 ≤ s0)) : Int32) : Int32)]) (mem' := mem) hS hC 2 rfl ?_
    have kp59 : pm_Ex ro m_X10_gameOf 131 [.ref 33, .int x1, .int x2, .int x3, .int x4, .int x5, .int x6, .int x7, .int x8, .int x9, .int x10, .int s0, .int (if x8 = (-1) then 1 else (if ¬ x7 = 0 then zb (¬ (s0 ≤ x8)) else zb (¬ (x8 ≤ s0)) : Int32) : Int32)] [.int (if (if x8 = (-1) then 1 else (if ¬ x7 = 0 then zb (¬ (s0 ≤ x8)) else zb (¬ (x8 ≤ s0)) : Int32) : Int32) = 0 then x9 else x10 : Int32)] mem Q := by
      refine ex_many (pc' := 135) (ls' := [.ref 33, .int x1, .int x2, .int x3, .int x4, .int x5, .int x6, .int x7, .int x8, .int (if (if x8 = (-1) then 1 else (if ¬ x7 = 0 then zb (¬ (s0 ≤ x8)) else zb (¬ (x8 ≤ s0)) : Int32) : Int32) = 0 then x9 else x10 : Int32), .int x10, .int s0, .int (if x8 = (-1) then 1 else (if ¬ x7 = 0 then zb (¬ (s0 ≤ x8)) else zb (¬ (x8 ≤ s0)) : Int32) : Int32)]) (st' := [.int (if x8 = (-1) then 1 else (if ¬ x7 = 0 then zb (¬ (s0 ≤ x8)) else zb (¬ (x8 ≤ s0)) : Int32) : Int32)]) (mem' := mem) hS hC 2 rfl ?_
      have kp58 : pm_Ex ro m_X10_gameOf 145 [.ref 33, .int x1, .int x2, .int x3, .int x4, .int x5, .int x6, .int x7, .int x8, .int (if (if x8 = (-1) then 1 else (if ¬ x7 = 0 then zb (¬ (s0 ≤ x8)) else zb (¬ (x8 ≤ s0)) : Int32) : Int32) = 0 then x9 else x10 : Int32), .int x10, .int s0, .int (if x8 = (-1) then 1 else (if ¬ x7 = 0 then zb (¬ (s0 ≤ x8)) else zb (¬ (x8 ≤ s0)) : Int32) : Int32)] [.int (if (if x8 = (-1) then 1 else (if ¬ x7 = 0 then zb (¬ (s0 ≤ x8)) else zb (¬ (x8 ≤ s0)) : Int32) : Int32) = 0 then x8 else s0 : Int32)] mem Q := by
        refine ex_many (pc' := 52) (ls' := [.ref 33, .int x1, .int x2, .int x3, .int x4, .int x5, .int x6, .int x7, .int (if (if x8 = (-1) then 1 else (if ¬ x7 = 0 then zb (¬ (s0 ≤ x8)) else zb (¬ (x8 ≤ s0)) : Int32) : Int32) = 0 then x8 else s0 : Int32), .int (if (if x8 = (-1) then 1 else (if ¬ x7 = 0 then zb (¬ (s0 ≤ x8)) else zb (¬ (x8 ≤ s0)) : Int32) : Int32) = 0 then x9 else x10 : Int32), .int (x10 + 1), .int s0, .int (if x8 = (-1) then 1 else (if ¬ x7 = 0 then zb (¬ (s0 ≤ x8)) else zb (¬ (x8 ≤ s0)) : Int32) : Int32)]) (st' := []) (mem' := mem) hS hC 3 rfl ?_
        exact k
      refine ex_br (P := (if x8 = (-1) then 1 else (if ¬ x7 = 0 then zb (¬ (s0 ≤ x8)) else zb (¬ (x8 ≤ s0)) : Int32) : Int32) = 0) (a := 143) (b := 138) (ls' := [.ref 33, .int x1, .int x2, .int x3, .int x4, .int x5, .int x6, .int x7, .int x8, .int (if (if x8 = (-1) then 1 else (if ¬ x7 = 0 then zb (¬ (s0 ≤ x8)) else zb (¬ (x8 ≤ s0)) : Int32) : Int32) = 0 then x9 else x10 : Int32), .int x10, .int s0, .int (if x8 = (-1) then 1 else (if ¬ x7 = 0 then zb (¬ (s0 ≤ x8)) else zb (¬ (x8 ≤ s0)) : Int32) : Int32)]) (st' := []) (mem' := mem) hS hC rfl (fun h => ?_) (fun h => ?_)
      · have kp58a : pm_Ex ro m_X10_gameOf 145 [.ref 33, .int x1, .int x2, .int x3, .int x4, .int x5, .int x6, .int x7, .int x8, .int (if (if x8 = (-1) then 1 else (if ¬ x7 = 0 then zb (¬ (s0 ≤ x8)) else zb (¬ (x8 ≤ s0)) : Int32) : Int32) = 0 then x9 else x10 : Int32), .int x10, .int s0, .int (if x8 = (-1) then 1 else (if ¬ x7 = 0 then zb (¬ (s0 ≤ x8)) else zb (¬ (x8 ≤ s0)) : Int32) : Int32)] [.int x8] mem Q := pm_phi1 (f := fun z0 => pm_Ex ro m_X10_gameOf 145 [.ref 33, .int x1, .int x2, .int x3, .int x4, .int x5, .int x6, .int x7, .int x8, .int (if (if x8 = (-1) then 1 else (if ¬ x7 = 0 then zb (¬ (s0 ≤ x8)) else zb (¬ (x8 ≤ s0)) : Int32) : Int32) = 0 then x9 else x10 : Int32), .int x10, .int s0, .int (if x8 = (-1) then 1 else (if ¬ x7 = 0 then zb (¬ (s0 ≤ x8)) else zb (¬ (x8 ≤ s0)) : Int32) : Int32)] [.int z0] mem Q) (if_pos (h)) kp58
        refine ex_many (pc' := 145) (ls' := [.ref 33, .int x1, .int x2, .int x3, .int x4, .int x5, .int x6, .int x7, .int x8, .int (if (if x8 = (-1) then 1 else (if ¬ x7 = 0 then zb (¬ (s0 ≤ x8)) else zb (¬ (x8 ≤ s0)) : Int32) : Int32) = 0 then x9 else x10 : Int32), .int x10, .int s0, .int (if x8 = (-1) then 1 else (if ¬ x7 = 0 then zb (¬ (s0 ≤ x8)) else zb (¬ (x8 ≤ s0)) : Int32) : Int32)]) (st' := [.int x8]) (mem' := mem) hS hC 1 rfl ?_
        exact kp58a
      · have kp58b : pm_Ex ro m_X10_gameOf 145 [.ref 33, .int x1, .int x2, .int x3, .int x4, .int x5, .int x6, .int x7, .int x8, .int (if (if x8 = (-1) then 1 else (if ¬ x7 = 0 then zb (¬ (s0 ≤ x8)) else zb (¬ (x8 ≤ s0)) : Int32) : Int32) = 0 then x9 else x10 : Int32), .int x10, .int s0, .int (if x8 = (-1) then 1 else (if ¬ x7 = 0 then zb (¬ (s0 ≤ x8)) else zb (¬ (x8 ≤ s0)) : Int32) : Int32)] [.int s0] mem Q := pm_phi1 (f := fun z0 => pm_Ex ro m_X10_gameOf 145 [.ref 33, .int x1, .int x2, .int x3, .int x4, .int x5, .int x6, .int x7, .int x8, .int (if (if x8 = (-1) then 1 else (if ¬ x7 = 0 then zb (¬ (s0 ≤ x8)) else zb (¬ (x8 ≤ s0)) : Int32) : Int32) = 0 then x9 else x10 : Int32), .int x10, .int s0, .int (if x8 = (-1) then 1 else (if ¬ x7 = 0 then zb (¬ (s0 ≤ x8)) else zb (¬ (x8 ≤ s0)) : Int32) : Int32)] [.int z0] mem Q) (if_neg (h)) kp58
        refine ex_many (pc' := 145) (ls' := [.ref 33, .int x1, .int x2, .int x3, .int x4, .int x5, .int x6, .int x7, .int x8, .int (if (if x8 = (-1) then 1 else (if ¬ x7 = 0 then zb (¬ (s0 ≤ x8)) else zb (¬ (x8 ≤ s0)) : Int32) : Int32) = 0 then x9 else x10 : Int32), .int x10, .int s0, .int (if x8 = (-1) then 1 else (if ¬ x7 = 0 then zb (¬ (s0 ≤ x8)) else zb (¬ (x8 ≤ s0)) : Int32) : Int32)]) (st' := [.int s0]) (mem' := mem) hS hC 2 rfl ?_
        exact kp58b
    refine ex_br (P := (if x8 = (-1) then 1 else (if ¬ x7 = 0 then zb (¬ (s0 ≤ x8)) else zb (¬ (x8 ≤ s0)) : Int32) : Int32) = 0) (a := 129) (b := 124) (ls' := [.ref 33, .int x1, .int x2, .int x3, .int x4, .int x5, .int x6, .int x7, .int x8, .int x9, .int x10, .int s0, .int (if x8 = (-1) then 1 else (if ¬ x7 = 0 then zb (¬ (s0 ≤ x8)) else zb (¬ (x8 ≤ s0)) : Int32) : Int32)]) (st' := []) (mem' := mem) hS hC rfl (fun h => ?_) (fun h => ?_)
    · have kp59a : pm_Ex ro m_X10_gameOf 131 [.ref 33, .int x1, .int x2, .int x3, .int x4, .int x5, .int x6, .int x7, .int x8, .int x9, .int x10, .int s0, .int (if x8 = (-1) then 1 else (if ¬ x7 = 0 then zb (¬ (s0 ≤ x8)) else zb (¬ (x8 ≤ s0)) : Int32) : Int32)] [.int x9] mem Q := pm_phi1 (f := fun z0 => pm_Ex ro m_X10_gameOf 131 [.ref 33, .int x1, .int x2, .int x3, .int x4, .int x5, .int x6, .int x7, .int x8, .int x9, .int x10, .int s0, .int (if x8 = (-1) then 1 else (if ¬ x7 = 0 then zb (¬ (s0 ≤ x8)) else zb (¬ (x8 ≤ s0)) : Int32) : Int32)] [.int z0] mem Q) (if_pos (h)) kp59
      refine ex_many (pc' := 131) (ls' := [.ref 33, .int x1, .int x2, .int x3, .int x4, .int x5, .int x6, .int x7, .int x8, .int x9, .int x10, .int s0, .int (if x8 = (-1) then 1 else (if ¬ x7 = 0 then zb (¬ (s0 ≤ x8)) else zb (¬ (x8 ≤ s0)) : Int32) : Int32)]) (st' := [.int x9]) (mem' := mem) hS hC 1 rfl ?_
      exact kp59a
    · have kp59b : pm_Ex ro m_X10_gameOf 131 [.ref 33, .int x1, .int x2, .int x3, .int x4, .int x5, .int x6, .int x7, .int x8, .int x9, .int x10, .int s0, .int (if x8 = (-1) then 1 else (if ¬ x7 = 0 then zb (¬ (s0 ≤ x8)) else zb (¬ (x8 ≤ s0)) : Int32) : Int32)] [.int x10] mem Q := pm_phi1 (f := fun z0 => pm_Ex ro m_X10_gameOf 131 [.ref 33, .int x1, .int x2, .int x3, .int x4, .int x5, .int x6, .int x7, .int x8, .int x9, .int x10, .int s0, .int (if x8 = (-1) then 1 else (if ¬ x7 = 0 then zb (¬ (s0 ≤ x8)) else zb (¬ (x8 ≤ s0)) : Int32) : Int32)] [.int z0] mem Q) (if_neg (h)) kp59
      refine ex_many (pc' := 131) (ls' := [.ref 33, .int x1, .int x2, .int x3, .int x4, .int x5, .int x6, .int x7, .int x8, .int x9, .int x10, .int s0, .int (if x8 = (-1) then 1 else (if ¬ x7 = 0 then zb (¬ (s0 ≤ x8)) else zb (¬ (x8 ≤ s0)) : Int32) : Int32)]) (st' := [.int x10]) (mem' := mem) hS hC 2 rfl ?_
      exact kp59b
  refine ex_br (P := x8 = (-1)) (a := 112) (b := 90) (ls' := [.ref 33, .int x1, .int x2, .int x3, .int x4, .int x5, .int x6, .int x7, .int x8, .int x9, .int x10, .int s0, .null]) (st' := []) (mem' := mem) hS hC rfl (fun h => ?_) (fun h => ?_)
  · have kp60a : pm_Ex ro m_X10_gameOf 117 [.ref 33, .int x1, .int x2, .int x3, .int x4, .int x5, .int x6, .int x7, .int x8, .int x9, .int x10, .int s0, .null] [.int 1] mem Q := pm_phi1 (f := fun z0 => pm_Ex ro m_X10_gameOf 117 [.ref 33, .int x1, .int x2, .int x3, .int x4, .int x5, .int x6, .int x7, .int x8, .int x9, .int x10, .int s0, .null] [.int z0] mem Q) (if_pos (h)) kp60
    refine ex_many (pc' := 117) (ls' := [.ref 33, .int x1, .int x2, .int x3, .int x4, .int x5, .int x6, .int x7, .int x8, .int x9, .int x10, .int s0, .null]) (st' := [.int 1]) (mem' := mem) hS hC 2 rfl ?_
    exact kp60a
  · have kp60b : pm_Ex ro m_X10_gameOf 117 [.ref 33, .int x1, .int x2, .int x3, .int x4, .int x5, .int x6, .int x7, .int x8, .int x9, .int x10, .int s0, .null] [.int (if ¬ x7 = 0 then zb (¬ (s0 ≤ x8)) else zb (¬ (x8 ≤ s0)) : Int32)] mem Q := pm_phi1 (f := fun z0 => pm_Ex ro m_X10_gameOf 117 [.ref 33, .int x1, .int x2, .int x3, .int x4, .int x5, .int x6, .int x7, .int x8, .int x9, .int x10, .int s0, .null] [.int z0] mem Q) (if_neg (h)) kp60
    have kp57 : pm_Ex ro m_X10_gameOf 117 [.ref 33, .int x1, .int x2, .int x3, .int x4, .int x5, .int x6, .int x7, .int x8, .int x9, .int x10, .int s0, .null] [.int (if ¬ x7 = 0 then zb (¬ (s0 ≤ x8)) else zb (¬ (x8 ≤ s0)) : Int32)] mem Q := by
      exact kp60b
    refine ex_many (pc' := 92) (ls' := [.ref 33, .int x1, .int x2, .int x3, .int x4, .int x5, .int x6, .int x7, .int x8, .int x9, .int x10, .int s0, .null]) (st' := [.int x7]) (mem' := mem) hS hC 1 rfl ?_
    refine ex_br (P := ¬ x7 = 0) (a := 105) (b := 95) (ls' := [.ref 33, .int x1, .int x2, .int x3, .int x4, .int x5, .int x6, .int x7, .int x8, .int x9, .int x10, .int s0, .null]) (st' := []) (mem' := mem) hS hC rfl (fun h => ?_) (fun h => ?_)
    · have kp57a : pm_Ex ro m_X10_gameOf 117 [.ref 33, .int x1, .int x2, .int x3, .int x4, .int x5, .int x6, .int x7, .int x8, .int x9, .int x10, .int s0, .null] [.int (zb (¬ (s0 ≤ x8)))] mem Q := pm_phi1 (f := fun z0 => pm_Ex ro m_X10_gameOf 117 [.ref 33, .int x1, .int x2, .int x3, .int x4, .int x5, .int x6, .int x7, .int x8, .int x9, .int x10, .int s0, .null] [.int z0] mem Q) (if_pos (h)) kp57
      have kp55 : pm_Ex ro m_X10_gameOf 117 [.ref 33, .int x1, .int x2, .int x3, .int x4, .int x5, .int x6, .int x7, .int x8, .int x9, .int x10, .int s0, .null] [.int (zb (¬ (s0 ≤ x8)))] mem Q := by
        exact kp57a
      refine ex_many (pc' := 109) (ls' := [.ref 33, .int x1, .int x2, .int x3, .int x4, .int x5, .int x6, .int x7, .int x8, .int x9, .int x10, .int s0, .null]) (st' := [.int x8, .int s0]) (mem' := mem) hS hC 2 rfl ?_
      refine ex_br (P := s0 ≤ x8) (a := 116) (b := 112) (ls' := [.ref 33, .int x1, .int x2, .int x3, .int x4, .int x5, .int x6, .int x7, .int x8, .int x9, .int x10, .int s0, .null]) (st' := []) (mem' := mem) hS hC rfl (fun h => ?_) (fun h => ?_)
      · have kp55a : pm_Ex ro m_X10_gameOf 117 [.ref 33, .int x1, .int x2, .int x3, .int x4, .int x5, .int x6, .int x7, .int x8, .int x9, .int x10, .int s0, .null] [.int 0] mem Q := pm_phi1 (f := fun z0 => pm_Ex ro m_X10_gameOf 117 [.ref 33, .int x1, .int x2, .int x3, .int x4, .int x5, .int x6, .int x7, .int x8, .int x9, .int x10, .int s0, .null] [.int z0] mem Q) (zb_npos (h)) kp55
        refine ex_many (pc' := 117) (ls' := [.ref 33, .int x1, .int x2, .int x3, .int x4, .int x5, .int x6, .int x7, .int x8, .int x9, .int x10, .int s0, .null]) (st' := [.int 0]) (mem' := mem) hS hC 1 rfl ?_
        exact kp55a
      · have kp55b : pm_Ex ro m_X10_gameOf 117 [.ref 33, .int x1, .int x2, .int x3, .int x4, .int x5, .int x6, .int x7, .int x8, .int x9, .int x10, .int s0, .null] [.int 1] mem Q := pm_phi1 (f := fun z0 => pm_Ex ro m_X10_gameOf 117 [.ref 33, .int x1, .int x2, .int x3, .int x4, .int x5, .int x6, .int x7, .int x8, .int x9, .int x10, .int s0, .null] [.int z0] mem Q) (zb_nneg (h)) kp55
        refine ex_many (pc' := 117) (ls' := [.ref 33, .int x1, .int x2, .int x3, .int x4, .int x5, .int x6, .int x7, .int x8, .int x9, .int x10, .int s0, .null]) (st' := [.int 1]) (mem' := mem) hS hC 2 rfl ?_
        exact kp55b
    · have kp57b : pm_Ex ro m_X10_gameOf 117 [.ref 33, .int x1, .int x2, .int x3, .int x4, .int x5, .int x6, .int x7, .int x8, .int x9, .int x10, .int s0, .null] [.int (zb (¬ (x8 ≤ s0)))] mem Q := pm_phi1 (f := fun z0 => pm_Ex ro m_X10_gameOf 117 [.ref 33, .int x1, .int x2, .int x3, .int x4, .int x5, .int x6, .int x7, .int x8, .int x9, .int x10, .int s0, .null] [.int z0] mem Q) (if_neg (h)) kp57
      have kp56 : pm_Ex ro m_X10_gameOf 117 [.ref 33, .int x1, .int x2, .int x3, .int x4, .int x5, .int x6, .int x7, .int x8, .int x9, .int x10, .int s0, .null] [.int (zb (¬ (x8 ≤ s0)))] mem Q := by
        exact kp57b
      refine ex_many (pc' := 99) (ls' := [.ref 33, .int x1, .int x2, .int x3, .int x4, .int x5, .int x6, .int x7, .int x8, .int x9, .int x10, .int s0, .null]) (st' := [.int x8, .int s0]) (mem' := mem) hS hC 2 rfl ?_
      refine ex_br (P := x8 ≤ s0) (a := 116) (b := 102) (ls' := [.ref 33, .int x1, .int x2, .int x3, .int x4, .int x5, .int x6, .int x7, .int x8, .int x9, .int x10, .int s0, .null]) (st' := []) (mem' := mem) hS hC rfl (fun h => ?_) (fun h => ?_)
      · have kp56a : pm_Ex ro m_X10_gameOf 117 [.ref 33, .int x1, .int x2, .int x3, .int x4, .int x5, .int x6, .int x7, .int x8, .int x9, .int x10, .int s0, .null] [.int 0] mem Q := pm_phi1 (f := fun z0 => pm_Ex ro m_X10_gameOf 117 [.ref 33, .int x1, .int x2, .int x3, .int x4, .int x5, .int x6, .int x7, .int x8, .int x9, .int x10, .int s0, .null] [.int z0] mem Q) (zb_npos (h)) kp56
        refine ex_many (pc' := 117) (ls' := [.ref 33, .int x1, .int x2, .int x3, .int x4, .int x5, .int x6, .int x7, .int x8, .int x9, .int x10, .int s0, .null]) (st' := [.int 0]) (mem' := mem) hS hC 1 rfl ?_
        exact kp56a
      · have kp56b : pm_Ex ro m_X10_gameOf 117 [.ref 33, .int x1, .int x2, .int x3, .int x4, .int x5, .int x6, .int x7, .int x8, .int x9, .int x10, .int s0, .null] [.int 1] mem Q := pm_phi1 (f := fun z0 => pm_Ex ro m_X10_gameOf 117 [.ref 33, .int x1, .int x2, .int x3, .int x4, .int x5, .int x6, .int x7, .int x8, .int x9, .int x10, .int s0, .null] [.int z0] mem Q) (zb_nneg (h)) kp56
        refine ex_many (pc' := 117) (ls' := [.ref 33, .int x1, .int x2, .int x3, .int x4, .int x5, .int x6, .int x7, .int x8, .int x9, .int x10, .int s0, .null]) (st' := [.int 1]) (mem' := mem) hS hC 3 rfl ?_
        exact kp56b

set_option maxRecDepth 20000 in
theorem bk_X10_game_0 {ro : pm_RO} {Q : Option Value → pm_M → Prop} {mem : pm_M} {a1 a2 a3 a4 : Int32} (k : (0 ≤ a1 ∧ a1 ≤ 200 → (2 ≤ a2 ∧ a2 ≤ 1022 → (¬ (a2 - a2 / 2 * 2) = 0 → (0 = 0 → Q (some (.int (-2))) mem) ∧ (¬ (0 = 0) → pm_Ex ro m_X10_gameOf 0 [.ref 33, .int a1, .int a2, .int a3, .int a4, .null, .null, .null, .null, .null, .null, .null, .null] [] mem (fun v m => pm_Ex ro m_X10_game 73 [.ref 33, .int a1, .int a2, .int a3, .int a4, .int 0] (v.toList ++ []) m Q))) ∧ (¬ (¬ (a2 - a2 / 2 * 2) = 0) → (1 ≤ a3 ∧ a3 ≤ 200 → (0 ≤ a4 ∧ a4 ≤ 1 → pm_Ex ro m_X10_gameOf 0 [.ref 33, .int a1, .int a2, .int a3, .int a4, .null, .null, .null, .null, .null, .null, .null, .null] [] mem (fun v m => pm_Ex ro m_X10_game 73 [.ref 33, .int a1, .int a2, .int a3, .int a4, .int (zb (0 ≤ a4 ∧ a4 ≤ 1))] (v.toList ++ []) m Q)) ∧ (¬ (0 ≤ a4 ∧ a4 ≤ 1) → Q (some (.int (-2))) mem)) ∧ (¬ (1 ≤ a3 ∧ a3 ≤ 200) → (0 = 0 → Q (some (.int (-2))) mem) ∧ (¬ (0 = 0) → pm_Ex ro m_X10_gameOf 0 [.ref 33, .int a1, .int a2, .int a3, .int a4, .null, .null, .null, .null, .null, .null, .null, .null] [] mem (fun v m => pm_Ex ro m_X10_game 73 [.ref 33, .int a1, .int a2, .int a3, .int a4, .int 0] (v.toList ++ []) m Q))))) ∧ (¬ (2 ≤ a2 ∧ a2 ≤ 1022) → (0 = 0 → Q (some (.int (-2))) mem) ∧ (¬ (0 = 0) → pm_Ex ro m_X10_gameOf 0 [.ref 33, .int a1, .int a2, .int a3, .int a4, .null, .null, .null, .null, .null, .null, .null, .null] [] mem (fun v m => pm_Ex ro m_X10_game 73 [.ref 33, .int a1, .int a2, .int a3, .int a4, .int 0] (v.toList ++ []) m Q)))) ∧ (¬ (0 ≤ a1 ∧ a1 ≤ 200) → (0 = 0 → Q (some (.int (-2))) mem) ∧ (¬ (0 = 0) → pm_Ex ro m_X10_gameOf 0 [.ref 33, .int a1, .int a2, .int a3, .int a4, .null, .null, .null, .null, .null, .null, .null, .null] [] mem (fun v m => pm_Ex ro m_X10_game 73 [.ref 33, .int a1, .int a2, .int a3, .int a4, .int 0] (v.toList ++ []) m Q)))) : pm_Ex ro m_X10_game 0 [.ref 33, .int a1, .int a2, .int a3, .int a4, .null] [] mem Q := by
  have hS : pm_sig[m_X10_game]? = some _ := rfl
  have hC : pm_cod[m_X10_game]? = some _ := rfl
  refine ex_many (pc' := 6) (ls' := [.ref 33, .int a1, .int a2, .int a3, .int a4, .null]) (st' := [.long 200, .long 0, .long a1.toInt64]) (mem' := mem) hS hC 4 rfl ?_
  refine ex_call (y' := m_X10_in) (rest := []) (ent := [.long a1.toInt64, .null, .long 0, .null, .long 200, .null]) hS hC rfl rfl rfl rfl rfl rfl ?_
  refine sp_in32 (v := a1) (lo := 0) (hi := 200) (by decide) (by decide) ?_
  show pm_Ex ro m_X10_game 9 [.ref 33, .int a1, .int a2, .int a3, .int a4, .null] [.int (zb (0 ≤ a1 ∧ a1 ≤ 200))] mem Q
  refine ex_br (P := (zb (0 ≤ a1 ∧ a1 ≤ 200)) = 0) (a := 56) (b := 12) (ls' := [.ref 33, .int a1, .int a2, .int a3, .int a4, .null]) (st' := []) (mem' := mem) hS hC rfl (fun h => ?_) (fun h => ?_)
  · replace k := k.2 (zb0 h)
    refine ex_many (pc' := 61) (ls' := [.ref 33, .int a1, .int a2, .int a3, .int a4, .int 0]) (st' := [.int 0]) (mem' := mem) hS hC 3 rfl ?_
    refine ex_br (P := 0 = 0) (a := 76) (b := 64) (ls' := [.ref 33, .int a1, .int a2, .int a3, .int a4, .int 0]) (st' := []) (mem' := mem) hS hC rfl (fun h => ?_) (fun h => ?_)
    · replace k := k.1 (h)
      refine ex_many (pc' := 78) (ls' := [.ref 33, .int a1, .int a2, .int a3, .int a4, .int 0]) (st' := [.int (-2)]) (mem' := mem) hS hC 1 rfl ?_
      exact ex_ret (v := (some (.int (-2)))) hS hC rfl rfl rfl k
    · replace k := k.2 (h)
      refine ex_many (pc' := 70) (ls' := [.ref 33, .int a1, .int a2, .int a3, .int a4, .int 0]) (st' := [.int a4, .int a3, .int a2, .int a1, .ref 33]) (mem' := mem) hS hC 5 rfl ?_
      refine ex_call (y' := m_X10_gameOf) (rest := []) (ent := [.ref 33, .int a1, .int a2, .int a3, .int a4, .null, .null, .null, .null, .null, .null, .null, .null]) hS hC rfl rfl rfl rfl rfl rfl ?_
      exact k
  · replace k := k.1 (zb1 h)
    refine ex_many (pc' := 20) (ls' := [.ref 33, .int a1, .int a2, .int a3, .int a4, .null]) (st' := [.long 1022, .long 2, .long a2.toInt64]) (mem' := mem) hS hC 4 rfl ?_
    refine ex_call (y' := m_X10_in) (rest := []) (ent := [.long a2.toInt64, .null, .long 2, .null, .long 1022, .null]) hS hC rfl rfl rfl rfl rfl rfl ?_
    refine sp_in32 (v := a2) (lo := 2) (hi := 1022) (by decide) (by decide) ?_
    show pm_Ex ro m_X10_game 23 [.ref 33, .int a1, .int a2, .int a3, .int a4, .null] [.int (zb (2 ≤ a2 ∧ a2 ≤ 1022))] mem Q
    refine ex_br (P := (zb (2 ≤ a2 ∧ a2 ≤ 1022)) = 0) (a := 56) (b := 26) (ls' := [.ref 33, .int a1, .int a2, .int a3, .int a4, .null]) (st' := []) (mem' := mem) hS hC rfl (fun h => ?_) (fun h => ?_)
    · replace k := k.2 (zb0 h)
      refine ex_many (pc' := 61) (ls' := [.ref 33, .int a1, .int a2, .int a3, .int a4, .int 0]) (st' := [.int 0]) (mem' := mem) hS hC 3 rfl ?_
      refine ex_br (P := 0 = 0) (a := 76) (b := 64) (ls' := [.ref 33, .int a1, .int a2, .int a3, .int a4, .int 0]) (st' := []) (mem' := mem) hS hC rfl (fun h => ?_) (fun h => ?_)
      · replace k := k.1 (h)
        refine ex_many (pc' := 78) (ls' := [.ref 33, .int a1, .int a2, .int a3, .int a4, .int 0]) (st' := [.int (-2)]) (mem' := mem) hS hC 1 rfl ?_
        exact ex_ret (v := (some (.int (-2)))) hS hC rfl rfl rfl k
      · replace k := k.2 (h)
        refine ex_many (pc' := 70) (ls' := [.ref 33, .int a1, .int a2, .int a3, .int a4, .int 0]) (st' := [.int a4, .int a3, .int a2, .int a1, .ref 33]) (mem' := mem) hS hC 5 rfl ?_
        refine ex_call (y' := m_X10_gameOf) (rest := []) (ent := [.ref 33, .int a1, .int a2, .int a3, .int a4, .null, .null, .null, .null, .null, .null, .null, .null]) hS hC rfl rfl rfl rfl rfl rfl ?_
        exact k
    · replace k := k.1 (zb1 h)
      refine ex_many (pc' := 29) (ls' := [.ref 33, .int a1, .int a2, .int a3, .int a4, .null]) (st' := [.int (a2 - a2 / 2 * 2)]) (mem' := mem) hS hC 3 rfl ?_
      refine ex_br (P := ¬ (a2 - a2 / 2 * 2) = 0) (a := 56) (b := 32) (ls' := [.ref 33, .int a1, .int a2, .int a3, .int a4, .null]) (st' := []) (mem' := mem) hS hC rfl (fun h => ?_) (fun h => ?_)
      · replace k := k.1 (h)
        refine ex_many (pc' := 61) (ls' := [.ref 33, .int a1, .int a2, .int a3, .int a4, .int 0]) (st' := [.int 0]) (mem' := mem) hS hC 3 rfl ?_
        refine ex_br (P := 0 = 0) (a := 76) (b := 64) (ls' := [.ref 33, .int a1, .int a2, .int a3, .int a4, .int 0]) (st' := []) (mem' := mem) hS hC rfl (fun h => ?_) (fun h => ?_)
        · replace k := k.1 (h)
          refine ex_many (pc' := 78) (ls' := [.ref 33, .int a1, .int a2, .int a3, .int a4, .int 0]) (st' := [.int (-2)]) (mem' := mem) hS hC 1 rfl ?_
          exact ex_ret (v := (some (.int (-2)))) hS hC rfl rfl rfl k
        · replace k := k.2 (h)
          refine ex_many (pc' := 70) (ls' := [.ref 33, .int a1, .int a2, .int a3, .int a4, .int 0]) (st' := [.int a4, .int a3, .int a2, .int a1, .ref 33]) (mem' := mem) hS hC 5 rfl ?_
          refine ex_call (y' := m_X10_gameOf) (rest := []) (ent := [.ref 33, .int a1, .int a2, .int a3, .int a4, .null, .null, .null, .null, .null, .null, .null, .null]) hS hC rfl rfl rfl rfl rfl rfl ?_
          exact k
      · replace k := k.2 (h)
        refine ex_many (pc' := 38) (ls' := [.ref 33, .int a1, .int a2, .int a3, .int a4, .null]) (st' := [.long 200, .long 1, .long a3.toInt64]) (mem' := mem) hS hC 4 rfl ?_
        refine ex_call (y' := m_X10_in) (rest := []) (ent := [.long a3.toInt64, .null, .long 1, .null, .long 200, .null]) hS hC rfl rfl rfl rfl rfl rfl ?_
        refine sp_in32 (v := a3) (lo := 1) (hi := 200) (by decide) (by decide) ?_
        show pm_Ex ro m_X10_game 41 [.ref 33, .int a1, .int a2, .int a3, .int a4, .null] [.int (zb (1 ≤ a3 ∧ a3 ≤ 200))] mem Q
        refine ex_br (P := (zb (1 ≤ a3 ∧ a3 ≤ 200)) = 0) (a := 56) (b := 44) (ls' := [.ref 33, .int a1, .int a2, .int a3, .int a4, .null]) (st' := []) (mem' := mem) hS hC rfl (fun h => ?_) (fun h => ?_)
        · replace k := k.2 (zb0 h)
          refine ex_many (pc' := 61) (ls' := [.ref 33, .int a1, .int a2, .int a3, .int a4, .int 0]) (st' := [.int 0]) (mem' := mem) hS hC 3 rfl ?_
          refine ex_br (P := 0 = 0) (a := 76) (b := 64) (ls' := [.ref 33, .int a1, .int a2, .int a3, .int a4, .int 0]) (st' := []) (mem' := mem) hS hC rfl (fun h => ?_) (fun h => ?_)
          · replace k := k.1 (h)
            refine ex_many (pc' := 78) (ls' := [.ref 33, .int a1, .int a2, .int a3, .int a4, .int 0]) (st' := [.int (-2)]) (mem' := mem) hS hC 1 rfl ?_
            exact ex_ret (v := (some (.int (-2)))) hS hC rfl rfl rfl k
          · replace k := k.2 (h)
            refine ex_many (pc' := 70) (ls' := [.ref 33, .int a1, .int a2, .int a3, .int a4, .int 0]) (st' := [.int a4, .int a3, .int a2, .int a1, .ref 33]) (mem' := mem) hS hC 5 rfl ?_
            refine ex_call (y' := m_X10_gameOf) (rest := []) (ent := [.ref 33, .int a1, .int a2, .int a3, .int a4, .null, .null, .null, .null, .null, .null, .null, .null]) hS hC rfl rfl rfl rfl rfl rfl ?_
            exact k
        · replace k := k.1 (zb1 h)
          refine ex_many (pc' := 46) (ls' := [.ref 33, .int a1, .int a2, .int a3, .int a4, .null]) (st' := [.int a4]) (mem' := mem) hS hC 1 rfl ?_
          refine ex_call (y' := m_X10_isTwo) (rest := []) (ent := [.int a4]) hS hC rfl rfl rfl rfl rfl rfl ?_
          refine bk_X10_isTwo_0 ?_
          show pm_Ex ro m_X10_game 49 [.ref 33, .int a1, .int a2, .int a3, .int a4, .null] [.int (zb (0 ≤ a4 ∧ a4 ≤ 1))] mem Q
          have kp61 : pm_Ex ro m_X10_game 57 [.ref 33, .int a1, .int a2, .int a3, .int a4, .null] [.int (zb (0 ≤ a4 ∧ a4 ≤ 1))] mem Q := by
            refine ex_many (pc' := 61) (ls' := [.ref 33, .int a1, .int a2, .int a3, .int a4, .int (zb (0 ≤ a4 ∧ a4 ≤ 1))]) (st' := [.int (zb (0 ≤ a4 ∧ a4 ≤ 1))]) (mem' := mem) hS hC 2 rfl ?_
            refine ex_br (P := (zb (0 ≤ a4 ∧ a4 ≤ 1)) = 0) (a := 76) (b := 64) (ls' := [.ref 33, .int a1, .int a2, .int a3, .int a4, .int (zb (0 ≤ a4 ∧ a4 ≤ 1))]) (st' := []) (mem' := mem) hS hC rfl (fun h => ?_) (fun h => ?_)
            · replace k := k.2 (zb0 h)
              refine ex_many (pc' := 78) (ls' := [.ref 33, .int a1, .int a2, .int a3, .int a4, .int (zb (0 ≤ a4 ∧ a4 ≤ 1))]) (st' := [.int (-2)]) (mem' := mem) hS hC 1 rfl ?_
              exact ex_ret (v := (some (.int (-2)))) hS hC rfl rfl rfl k
            · replace k := k.1 (zb1 h)
              refine ex_many (pc' := 70) (ls' := [.ref 33, .int a1, .int a2, .int a3, .int a4, .int (zb (0 ≤ a4 ∧ a4 ≤ 1))]) (st' := [.int a4, .int a3, .int a2, .int a1, .ref 33]) (mem' := mem) hS hC 5 rfl ?_
              refine ex_call (y' := m_X10_gameOf) (rest := []) (ent := [.ref 33, .int a1, .int a2, .int a3, .int a4, .null, .null, .null, .null, .null, .null, .null, .null]) hS hC rfl rfl rfl rfl rfl rfl ?_
              exact k
          refine ex_br (P := (zb (0 ≤ a4 ∧ a4 ≤ 1)) = 0) (a := 56) (b := 52) (ls' := [.ref 33, .int a1, .int a2, .int a3, .int a4, .null]) (st' := []) (mem' := mem) hS hC rfl (fun h => ?_) (fun h => ?_)
          · have kp61a : pm_Ex ro m_X10_game 57 [.ref 33, .int a1, .int a2, .int a3, .int a4, .null] [.int 0] mem Q := pm_phi1 (f := fun z0 => pm_Ex ro m_X10_game 57 [.ref 33, .int a1, .int a2, .int a3, .int a4, .null] [.int z0] mem Q) (zb_neg (zb0 h)) kp61
            refine ex_many (pc' := 57) (ls' := [.ref 33, .int a1, .int a2, .int a3, .int a4, .null]) (st' := [.int 0]) (mem' := mem) hS hC 1 rfl ?_
            exact kp61a
          · have kp61b : pm_Ex ro m_X10_game 57 [.ref 33, .int a1, .int a2, .int a3, .int a4, .null] [.int 1] mem Q := pm_phi1 (f := fun z0 => pm_Ex ro m_X10_game 57 [.ref 33, .int a1, .int a2, .int a3, .int a4, .null] [.int z0] mem Q) (zb_pos (zb1 h)) kp61
            refine ex_many (pc' := 57) (ls' := [.ref 33, .int a1, .int a2, .int a3, .int a4, .null]) (st' := [.int 1]) (mem' := mem) hS hC 2 rfl ?_
            exact kp61b

set_option maxRecDepth 20000 in
theorem bk_X10_game_73 {ro : pm_RO} {Q : Option Value → pm_M → Prop} {mem : pm_M} {x1 x2 x3 x4 x5 s0 : Int32} (k : Q (some (.int s0)) mem) : pm_Ex ro m_X10_game 73 [.ref 33, .int x1, .int x2, .int x3, .int x4, .int x5] [.int s0] mem Q := by
  have hS : pm_sig[m_X10_game]? = some _ := rfl
  have hC : pm_cod[m_X10_game]? = some _ := rfl
  refine ex_many (pc' := 78) (ls' := [.ref 33, .int x1, .int x2, .int x3, .int x4, .int x5]) (st' := [.int s0]) (mem' := mem) hS hC 1 rfl ?_
  exact ex_ret (v := (some (.int s0))) hS hC rfl rfl rfl k

set_option maxRecDepth 20000 in
theorem bk_X10_write_0 {ro : pm_RO} {Q : Option Value → pm_M → Prop} {mem : pm_M} {a1 a2 : Int32} (k : (0 ≤ a1 ∧ a1 ≤ 9999 → (0 ≤ a2 ∧ a2 ≤ 3 → (pm_inb a2 4 = true) ∧ ((0 ≤ (mem 34 a2.toNatClampNeg) → pm_Ex ro m_X10_write 40 [.ref 33, .int a1, .int a2, .int 1, .int 0, .int a1, .null] [] mem Q) ∧ (¬ (0 ≤ (mem 34 a2.toNatClampNeg)) → Q (some (.int ((-10) - (1 : Int32)))) (pm_up mem 33 4 (1 : Int32))))) ∧ (¬ (0 ≤ a2 ∧ a2 ≤ 3) → Q (some (.int (-2))) mem)) ∧ (¬ (0 ≤ a1 ∧ a1 ≤ 9999) → Q (some (.int (-2))) mem)) : pm_Ex ro m_X10_write 0 [.ref 33, .int a1, .int a2, .null, .null, .null, .null] [] mem Q := by
  have hS : pm_sig[m_X10_write]? = some _ := rfl
  have hC : pm_cod[m_X10_write]? = some _ := rfl
  refine ex_many (pc' := 1) (ls' := [.ref 33, .int a1, .int a2, .null, .null, .null, .null]) (st' := [.int a1]) (mem' := mem) hS hC 1 rfl ?_
  refine ex_call (y' := m_X10_isNumber) (rest := []) (ent := [.int a1]) hS hC rfl rfl rfl rfl rfl rfl ?_
  refine bk_X10_isNumber_0 ?_
  show pm_Ex ro m_X10_write 4 [.ref 33, .int a1, .int a2, .null, .null, .null, .null] [.int (zb (0 ≤ a1 ∧ a1 ≤ 9999))] mem Q
  refine ex_br (P := (zb (0 ≤ a1 ∧ a1 ≤ 9999)) = 0) (a := 14) (b := 7) (ls' := [.ref 33, .int a1, .int a2, .null, .null, .null, .null]) (st' := []) (mem' := mem) hS hC rfl (fun h => ?_) (fun h => ?_)
  · replace k := k.2 (zb0 h)
    refine ex_many (pc' := 16) (ls' := [.ref 33, .int a1, .int a2, .null, .null, .null, .null]) (st' := [.int (-2)]) (mem' := mem) hS hC 1 rfl ?_
    exact ex_ret (v := (some (.int (-2)))) hS hC rfl rfl rfl k
  · replace k := k.1 (zb1 h)
    refine ex_many (pc' := 8) (ls' := [.ref 33, .int a1, .int a2, .null, .null, .null, .null]) (st' := [.int a2]) (mem' := mem) hS hC 1 rfl ?_
    refine ex_call (y' := m_X10_isSheet) (rest := []) (ent := [.int a2]) hS hC rfl rfl rfl rfl rfl rfl ?_
    refine bk_X10_isSheet_0 ?_
    show pm_Ex ro m_X10_write 11 [.ref 33, .int a1, .int a2, .null, .null, .null, .null] [.int (zb (0 ≤ a2 ∧ a2 ≤ 3))] mem Q
    refine ex_br (P := ¬ (zb (0 ≤ a2 ∧ a2 ≤ 3)) = 0) (a := 17) (b := 14) (ls' := [.ref 33, .int a1, .int a2, .null, .null, .null, .null]) (st' := []) (mem' := mem) hS hC rfl (fun h => ?_) (fun h => ?_)
    · replace k := k.1 (zb1 h)
      refine ex_many (pc' := 22) (ls' := [.ref 33, .int a1, .int a2, .null, .null, .null, .null]) (st' := [.int a2, .ref 34]) (mem' := mem) hS hC 3 rfl ?_
      refine ex_grd (b := pm_inb a2 4) (pc' := 23) (ls' := [.ref 33, .int a1, .int a2, .null, .null, .null, .null]) (st' := [.int (mem 34 a2.toNatClampNeg)]) (mem' := mem) hS hC rfl k.1 ?_
      replace k := k.2
      refine ex_br (P := 0 ≤ (mem 34 a2.toNatClampNeg)) (a := 32) (b := 26) (ls' := [.ref 33, .int a1, .int a2, .null, .null, .null, .null]) (st' := []) (mem' := mem) hS hC rfl (fun h => ?_) (fun h => ?_)
      · replace k := k.1 (h)
        refine ex_many (pc' := 40) (ls' := [.ref 33, .int a1, .int a2, .int 1, .int 0, .int a1, .null]) (st' := []) (mem' := mem) hS hC 6 rfl ?_
        exact k
      · replace k := k.2 (h)
        refine ex_many (pc' := 28) (ls' := [.ref 33, .int a1, .int a2, .null, .null, .null, .null]) (st' := [.int 1, .ref 33]) (mem' := mem) hS hC 2 rfl ?_
        refine ex_call (y' := m_X10_met) (rest := []) (ent := [.ref 33, .int 1]) hS hC rfl rfl rfl rfl rfl rfl ?_
        refine bk_X10_met_0 ?_
        show pm_Ex ro m_X10_write 31 [.ref 33, .int a1, .int a2, .null, .null, .null, .null] [.int ((-10) - (1 : Int32))] (pm_up mem 33 4 (1 : Int32)) Q
        exact ex_ret (v := (some (.int ((-10) - (1 : Int32))))) hS hC rfl rfl rfl k
    · replace k := k.2 (zb0n h)
      refine ex_many (pc' := 16) (ls' := [.ref 33, .int a1, .int a2, .null, .null, .null, .null]) (st' := [.int (-2)]) (mem' := mem) hS hC 1 rfl ?_
      exact ex_ret (v := (some (.int (-2)))) hS hC rfl rfl rfl k

set_option maxRecDepth 20000 in
theorem bk_X10_write_40 {ro : pm_RO} {Q : Option Value → pm_M → Prop} {mem : pm_M} {x1 x2 x3 x4 x5 : Int32} (k : (x5 ≤ 0 → pm_Ex ro m_X10_write 86 [.ref 33, .int x1, .int x2, .int x3, .int x4, .int 0, .int x1] [] mem Q) ∧ (¬ (x5 ≤ 0) → (¬ (mem 41 0) = 0) ∧ (pm_Ex ro m_X10_write 40 [.ref 33, .int x1, .int x2, .int (x3 * (if ¬ x4 = 0 then mem 41 0 else 1 : Int32)), .int (x4 + 1), .int (x5 / (mem 41 0)), .null] [] mem Q))) : pm_Ex ro m_X10_write 40 [.ref 33, .int x1, .int x2, .int x3, .int x4, .int x5, .null] [] mem Q := by
  have hS : pm_sig[m_X10_write]? = some _ := rfl
  have hC : pm_cod[m_X10_write]? = some _ := rfl
  refine ex_many (pc' := 42) (ls' := [.ref 33, .int x1, .int x2, .int x3, .int x4, .int x5, .null]) (st' := [.int x5]) (mem' := mem) hS hC 1 rfl ?_
  refine ex_br (P := x5 ≤ 0) (a := 80) (b := 45) (ls' := [.ref 33, .int x1, .int x2, .int x3, .int x4, .int x5, .null]) (st' := []) (mem' := mem) hS hC rfl (fun h => ?_) (fun h => ?_)
  · replace k := k.1 (h)
    refine ex_many (pc' := 86) (ls' := [.ref 33, .int x1, .int x2, .int x3, .int x4, .int 0, .int x1]) (st' := []) (mem' := mem) hS hC 4 rfl ?_
    exact k
  · replace k := k.2 (h)
    refine ex_many (pc' := 48) (ls' := [.ref 33, .int x1, .int x2, .int x3, .int x4, .int x5, .null]) (st' := [.int x4, .int x3]) (mem' := mem) hS hC 2 rfl ?_
    have kp62 : pm_Ex ro m_X10_write 61 [.ref 33, .int x1, .int x2, .int x3, .int x4, .int x5, .null] [.int (if ¬ x4 = 0 then mem 41 0 else 1 : Int32), .int x3] mem Q := by
      refine ex_many (pc' := 74) (ls' := [.ref 33, .int x1, .int x2, .int (x3 * (if ¬ x4 = 0 then mem 41 0 else 1 : Int32)), .int (x4 + 1), .int x5, .null]) (st' := [.int (mem 41 0), .int x5]) (mem' := mem) hS hC 8 rfl ?_
      refine ex_grd (b := !(decide ((mem 41 0) = 0))) (pc' := 75) (ls' := [.ref 33, .int x1, .int x2, .int (x3 * (if ¬ x4 = 0 then mem 41 0 else 1 : Int32)), .int (x4 + 1), .int x5, .null]) (st' := [.int (x5 / (mem 41 0))]) (mem' := mem) hS hC rfl (pm_nz k.1) ?_
      replace k := k.2
      refine ex_many (pc' := 40) (ls' := [.ref 33, .int x1, .int x2, .int (x3 * (if ¬ x4 = 0 then mem 41 0 else 1 : Int32)), .int (x4 + 1), .int (x5 / (mem 41 0)), .null]) (st' := []) (mem' := mem) hS hC 2 rfl ?_
      exact k
    refine ex_br (P := ¬ x4 = 0) (a := 55) (b := 51) (ls' := [.ref 33, .int x1, .int x2, .int x3, .int x4, .int x5, .null]) (st' := [.int x3]) (mem' := mem) hS hC rfl (fun h => ?_) (fun h => ?_)
    · have kp62a : pm_Ex ro m_X10_write 61 [.ref 33, .int x1, .int x2, .int x3, .int x4, .int x5, .null] [.int (mem 41 0), .int x3] mem Q := pm_phi1 (f := fun z0 => pm_Ex ro m_X10_write 61 [.ref 33, .int x1, .int x2, .int x3, .int x4, .int x5, .null] [.int z0, .int x3] mem Q) (if_pos (h)) kp62
      refine ex_many (pc' := 61) (ls' := [.ref 33, .int x1, .int x2, .int x3, .int x4, .int x5, .null]) (st' := [.int (mem 41 0), .int x3]) (mem' := mem) hS hC 4 rfl ?_
      exact kp62a
    · have kp62b : pm_Ex ro m_X10_write 61 [.ref 33, .int x1, .int x2, .int x3, .int x4, .int x5, .null] [.int 1, .int x3] mem Q := pm_phi1 (f := fun z0 => pm_Ex ro m_X10_write 61 [.ref 33, .int x1, .int x2, .int x3, .int x4, .int x5, .null] [.int z0, .int x3] mem Q) (if_neg (h)) kp62
      refine ex_many (pc' := 61) (ls' := [.ref 33, .int x1, .int x2, .int x3, .int x4, .int x5, .null]) (st' := [.int 1, .int x3]) (mem' := mem) hS hC 2 rfl ?_
      exact kp62b

set_option maxRecDepth 20000 in
theorem bk_X10_write_86 {ro : pm_RO} {Q : Option Value → pm_M → Prop} {mem : pm_M} {x1 x2 x3 x4 x5 x6 : Int32} (k : (x4 ≤ x5 → Q (some (.int x5)) mem) ∧ (¬ (x4 ≤ x5) → (pm_inb x2 4 = true) ∧ (((mem 35 x2.toNatClampNeg) ≤ x5 → Q (some (.int x5)) mem) ∧ (¬ ((mem 35 x2.toNatClampNeg) ≤ x5) → (pm_inb x2 4 = true) ∧ ((¬ x3 = 0) ∧ ((pm_inb ((60 * x2) + x5) 240 = true) ∧ ((¬ x3 = 0) ∧ ((¬ (mem 41 0) = 0) ∧ (pm_Ex ro m_X10_write 86 [.ref 33, .int x1, .int x2, .int (x3 / (mem 41 0)), .int x4, .int (x5 + 1), .int (x6 - x6 / x3 * x3)] [] (pm_up mem 36 (((60 * x2) + x5).toNatClampNeg) (if ¬ (mem 34 x2.toNatClampNeg) = 0 then (if ¬ (mem 34 x2.toNatClampNeg) = 1 then (x6 / x3) else (x6 / x3).toInt16.toInt32 : Int32) else (x6 / x3).toInt8.toInt32 : Int32)) Q))))))))) : pm_Ex ro m_X10_write 86 [.ref 33, .int x1, .int x2, .int x3, .int x4, .int x5, .int x6] [] mem Q := by
  have hS : pm_sig[m_X10_write]? = some _ := rfl
  have hC : pm_cod[m_X10_write]? = some _ := rfl
  refine ex_many (pc' := 90) (ls' := [.ref 33, .int x1, .int x2, .int x3, .int x4, .int x5, .int x6]) (st' := [.int x4, .int x5]) (mem' := mem) hS hC 2 rfl ?_
  refine ex_br (P := x4 ≤ x5) (a := 150) (b := 93) (ls' := [.ref 33, .int x1, .int x2, .int x3, .int x4, .int x5, .int x6]) (st' := []) (mem' := mem) hS hC rfl (fun h => ?_) (fun h => ?_)
  · replace k := k.1 (h)
    refine ex_many (pc' := 152) (ls' := [.ref 33, .int x1, .int x2, .int x3, .int x4, .int x5, .int x6]) (st' := [.int x5]) (mem' := mem) hS hC 1 rfl ?_
    exact ex_ret (v := (some (.int x5))) hS hC rfl rfl rfl k
  · replace k := k.2 (h)
    refine ex_many (pc' := 100) (ls' := [.ref 33, .int x1, .int x2, .int x3, .int x4, .int x5, .int x6]) (st' := [.int x2, .ref 35, .int x5]) (mem' := mem) hS hC 4 rfl ?_
    refine ex_grd (b := pm_inb x2 4) (pc' := 101) (ls' := [.ref 33, .int x1, .int x2, .int x3, .int x4, .int x5, .int x6]) (st' := [.int (mem 35 x2.toNatClampNeg), .int x5]) (mem' := mem) hS hC rfl k.1 ?_
    replace k := k.2
    refine ex_br (P := (mem 35 x2.toNatClampNeg) ≤ x5) (a := 150) (b := 104) (ls' := [.ref 33, .int x1, .int x2, .int x3, .int x4, .int x5, .int x6]) (st' := []) (mem' := mem) hS hC rfl (fun h => ?_) (fun h => ?_)
    · replace k := k.1 (h)
      refine ex_many (pc' := 152) (ls' := [.ref 33, .int x1, .int x2, .int x3, .int x4, .int x5, .int x6]) (st' := [.int x5]) (mem' := mem) hS hC 1 rfl ?_
      exact ex_ret (v := (some (.int x5))) hS hC rfl rfl rfl k
    · replace k := k.2 (h)
      refine ex_many (pc' := 120) (ls' := [.ref 33, .int x1, .int x2, .int x3, .int x4, .int x5, .int x6]) (st' := [.int x2, .ref 34, .int ((60 * x2) + x5), .ref 36]) (mem' := mem) hS hC 10 rfl ?_
      refine ex_grd (b := pm_inb x2 4) (pc' := 121) (ls' := [.ref 33, .int x1, .int x2, .int x3, .int x4, .int x5, .int x6]) (st' := [.int (mem 34 x2.toNatClampNeg), .int ((60 * x2) + x5), .ref 36]) (mem' := mem) hS hC rfl k.1 ?_
      replace k := k.2
      refine ex_many (pc' := 124) (ls' := [.ref 33, .int x1, .int x2, .int x3, .int x4, .int x5, .int x6]) (st' := [.int x3, .int x6, .int (mem 34 x2.toNatClampNeg), .int ((60 * x2) + x5), .ref 36]) (mem' := mem) hS hC 2 rfl ?_
      refine ex_grd (b := !(decide (x3 = 0))) (pc' := 125) (ls' := [.ref 33, .int x1, .int x2, .int x3, .int x4, .int x5, .int x6]) (st' := [.int (x6 / x3), .int (mem 34 x2.toNatClampNeg), .int ((60 * x2) + x5), .ref 36]) (mem' := mem) hS hC rfl (pm_nz k.1) ?_
      replace k := k.2
      refine ex_call (y' := m_X10_cut) (rest := [.int ((60 * x2) + x5), .ref 36]) (ent := [.int (mem 34 x2.toNatClampNeg), .int (x6 / x3)]) hS hC rfl rfl rfl rfl rfl rfl ?_
      refine bk_X10_cut_0 ?_
      show pm_Ex ro m_X10_write 128 [.ref 33, .int x1, .int x2, .int x3, .int x4, .int x5, .int x6] [.int (if ¬ (mem 34 x2.toNatClampNeg) = 0 then (if ¬ (mem 34 x2.toNatClampNeg) = 1 then (x6 / x3) else (x6 / x3).toInt16.toInt32 : Int32) else (x6 / x3).toInt8.toInt32 : Int32), .int ((60 * x2) + x5), .ref 36] mem Q
      refine ex_grd (b := pm_inb ((60 * x2) + x5) 240) (pc' := 129) (ls' := [.ref 33, .int x1, .int x2, .int x3, .int x4, .int x5, .int x6]) (st' := []) (mem' := pm_up mem 36 (((60 * x2) + x5).toNatClampNeg) (if ¬ (mem 34 x2.toNatClampNeg) = 0 then (if ¬ (mem 34 x2.toNatClampNeg) = 1 then (x6 / x3) else (x6 / x3).toInt16.toInt32 : Int32) else (x6 / x3).toInt8.toInt32 : Int32)) hS hC rfl k.1 ?_
      replace k := k.2
      refine ex_many (pc' := 132) (ls' := [.ref 33, .int x1, .int x2, .int x3, .int x4, .int x5, .int x6]) (st' := [.int x3, .int x6]) (mem' := pm_up mem 36 (((60 * x2) + x5).toNatClampNeg) (if ¬ (mem 34 x2.toNatClampNeg) = 0 then (if ¬ (mem 34 x2.toNatClampNeg) = 1 then (x6 / x3) else (x6 / x3).toInt16.toInt32 : Int32) else (x6 / x3).toInt8.toInt32 : Int32)) hS hC 2 rfl ?_
      refine ex_grd (b := !(decide (x3 = 0))) (pc' := 133) (ls' := [.ref 33, .int x1, .int x2, .int x3, .int x4, .int x5, .int x6]) (st' := [.int (x6 - x6 / x3 * x3)]) (mem' := pm_up mem 36 (((60 * x2) + x5).toNatClampNeg) (if ¬ (mem 34 x2.toNatClampNeg) = 0 then (if ¬ (mem 34 x2.toNatClampNeg) = 1 then (x6 / x3) else (x6 / x3).toInt16.toInt32 : Int32) else (x6 / x3).toInt8.toInt32 : Int32)) hS hC rfl (pm_nz k.1) ?_
      replace k := k.2
      refine ex_many (pc' := 142) (ls' := [.ref 33, .int x1, .int x2, .int x3, .int x4, .int x5, .int (x6 - x6 / x3 * x3)]) (st' := [.int (mem 41 0), .int x3]) (mem' := pm_up mem 36 (((60 * x2) + x5).toNatClampNeg) (if ¬ (mem 34 x2.toNatClampNeg) = 0 then (if ¬ (mem 34 x2.toNatClampNeg) = 1 then (x6 / x3) else (x6 / x3).toInt16.toInt32 : Int32) else (x6 / x3).toInt8.toInt32 : Int32)) hS hC 6 rfl ?_
      refine ex_grd (b := !(decide ((mem 41 0) = 0))) (pc' := 143) (ls' := [.ref 33, .int x1, .int x2, .int x3, .int x4, .int x5, .int (x6 - x6 / x3 * x3)]) (st' := [.int (x3 / (mem 41 0))]) (mem' := pm_up mem 36 (((60 * x2) + x5).toNatClampNeg) (if ¬ (mem 34 x2.toNatClampNeg) = 0 then (if ¬ (mem 34 x2.toNatClampNeg) = 1 then (x6 / x3) else (x6 / x3).toInt16.toInt32 : Int32) else (x6 / x3).toInt8.toInt32 : Int32)) hS hC rfl (pm_nz k.1) ?_
      replace k := k.2
      refine ex_many (pc' := 86) (ls' := [.ref 33, .int x1, .int x2, .int (x3 / (mem 41 0)), .int x4, .int (x5 + 1), .int (x6 - x6 / x3 * x3)]) (st' := []) (mem' := pm_up mem 36 (((60 * x2) + x5).toNatClampNeg) (if ¬ (mem 34 x2.toNatClampNeg) = 0 then (if ¬ (mem 34 x2.toNatClampNeg) = 1 then (x6 / x3) else (x6 / x3).toInt16.toInt32 : Int32) else (x6 / x3).toInt8.toInt32 : Int32)) hS hC 3 rfl ?_
      exact k

set_option maxRecDepth 20000 in
theorem bk_X10_count_0 {ro : pm_RO} {Q : Option Value → pm_M → Prop} {mem : pm_M} {a1 : Int32} (k : pm_Ex ro m_X10_reads 0 [.ref 33, .null] [] mem (fun v m => pm_Ex ro m_X10_count 4 [.ref 33, .int a1] (v.toList ++ []) m Q)) : pm_Ex ro m_X10_count 0 [.ref 33, .int a1] [] mem Q := by
  have hS : pm_sig[m_X10_count]? = some _ := rfl
  have hC : pm_cod[m_X10_count]? = some _ := rfl
  refine ex_many (pc' := 1) (ls' := [.ref 33, .int a1]) (st' := [.ref 33]) (mem' := mem) hS hC 1 rfl ?_
  refine ex_call (y' := m_X10_reads) (rest := []) (ent := [.ref 33, .null]) hS hC rfl rfl rfl rfl rfl rfl ?_
  exact k

set_option maxRecDepth 20000 in
theorem bk_X10_count_6_c0 {ro : pm_RO} {Q : Option Value → pm_M → Prop} {mem : pm_M} {x1 : Int32} (k : Q (some (.int (mem 33 8))) mem) : pm_Ex ro m_X10_count 6 [.ref 33, .int x1] [.int 0] mem Q := by
  have hS : pm_sig[m_X10_count]? = some _ := rfl
  have hC : pm_cod[m_X10_count]? = some _ := rfl
  refine ex_one (pc' := 56) (ls' := [.ref 33, .int x1]) (st' := []) (mem' := mem) hS hC rfl ?_
  refine ex_many (pc' := 60) (ls' := [.ref 33, .int x1]) (st' := [.int (mem 33 8)]) (mem' := mem) hS hC 2 rfl ?_
  exact ex_ret (v := (some (.int (mem 33 8)))) hS hC rfl rfl rfl k

set_option maxRecDepth 20000 in
theorem bk_X10_count_6_c1 {ro : pm_RO} {Q : Option Value → pm_M → Prop} {mem : pm_M} {x1 : Int32} (k : Q (some (.int (mem 33 6))) mem) : pm_Ex ro m_X10_count 6 [.ref 33, .int x1] [.int 1] mem Q := by
  have hS : pm_sig[m_X10_count]? = some _ := rfl
  have hC : pm_cod[m_X10_count]? = some _ := rfl
  refine ex_one (pc' := 61) (ls' := [.ref 33, .int x1]) (st' := []) (mem' := mem) hS hC rfl ?_
  refine ex_many (pc' := 65) (ls' := [.ref 33, .int x1]) (st' := [.int (mem 33 6)]) (mem' := mem) hS hC 2 rfl ?_
  exact ex_ret (v := (some (.int (mem 33 6)))) hS hC rfl rfl rfl k

set_option maxRecDepth 20000 in
theorem bk_X10_count_6_c2 {ro : pm_RO} {Q : Option Value → pm_M → Prop} {mem : pm_M} {x1 : Int32} (k : pm_Ex ro m_X10_ones 0 [.int (mem 33 10), .null, .null] [] mem (fun v m => pm_Ex ro m_X10_count 73 [.ref 33, .int x1] (v.toList ++ []) m Q)) : pm_Ex ro m_X10_count 6 [.ref 33, .int x1] [.int 2] mem Q := by
  have hS : pm_sig[m_X10_count]? = some _ := rfl
  have hC : pm_cod[m_X10_count]? = some _ := rfl
  refine ex_one (pc' := 66) (ls' := [.ref 33, .int x1]) (st' := []) (mem' := mem) hS hC rfl ?_
  refine ex_many (pc' := 70) (ls' := [.ref 33, .int x1]) (st' := [.int (mem 33 10)]) (mem' := mem) hS hC 2 rfl ?_
  refine ex_call (y' := m_X10_ones) (rest := []) (ent := [.int (mem 33 10), .null, .null]) hS hC rfl rfl rfl rfl rfl rfl ?_
  exact k

set_option maxRecDepth 20000 in
theorem bk_X10_count_6_c3 {ro : pm_RO} {Q : Option Value → pm_M → Prop} {mem : pm_M} {x1 : Int32} (k : pm_Ex ro m_X10_sumOf 0 [.ref 33, .int (((1 : Int32) <<< ((mem 33 8) &&& 31)) - 1), .null, .null] [] mem (fun v m => pm_Ex ro m_X10_count 82 [.ref 33, .int x1] (v.toList ++ []) m Q)) : pm_Ex ro m_X10_count 6 [.ref 33, .int x1] [.int 3] mem Q := by
  have hS : pm_sig[m_X10_count]? = some _ := rfl
  have hC : pm_cod[m_X10_count]? = some _ := rfl
  refine ex_one (pc' := 74) (ls' := [.ref 33, .int x1]) (st' := []) (mem' := mem) hS hC rfl ?_
  refine ex_many (pc' := 76) (ls' := [.ref 33, .int x1]) (st' := [.ref 33, .ref 33]) (mem' := mem) hS hC 2 rfl ?_
  refine ex_call (y' := m_X10_whole) (rest := [.ref 33]) (ent := [.ref 33]) hS hC rfl rfl rfl rfl rfl rfl ?_
  refine bk_X10_whole_0 ?_
  show pm_Ex ro m_X10_count 79 [.ref 33, .int x1] [.int (((1 : Int32) <<< ((mem 33 8) &&& 31)) - 1), .ref 33] mem Q
  refine ex_call (y' := m_X10_sumOf) (rest := []) (ent := [.ref 33, .int (((1 : Int32) <<< ((mem 33 8) &&& 31)) - 1), .null, .null]) hS hC rfl rfl rfl rfl rfl rfl ?_
  exact k

set_option maxRecDepth 20000 in
theorem bk_X10_count_6_c4 {ro : pm_RO} {Q : Option Value → pm_M → Prop} {mem : pm_M} {x1 : Int32} (k : (pm_inb (x1 - 4) 4 = true) ∧ (Q (some (.int (mem 41 ((x1 - 4).toNatClampNeg)))) mem)) : pm_Ex ro m_X10_count 6 [.ref 33, .int x1] [.int 4] mem Q := by
  have hS : pm_sig[m_X10_count]? = some _ := rfl
  have hC : pm_cod[m_X10_count]? = some _ := rfl
  refine ex_one (pc' := 83) (ls' := [.ref 33, .int x1]) (st' := []) (mem' := mem) hS hC rfl ?_
  refine ex_many (pc' := 90) (ls' := [.ref 33, .int x1]) (st' := [.int (x1 - 4), .ref 41]) (mem' := mem) hS hC 5 rfl ?_
  refine ex_grd (b := pm_inb (x1 - 4) 4) (pc' := 91) (ls' := [.ref 33, .int x1]) (st' := [.int (mem 41 ((x1 - 4).toNatClampNeg))]) (mem' := mem) hS hC rfl k.1 ?_
  replace k := k.2
  exact ex_ret (v := (some (.int (mem 41 ((x1 - 4).toNatClampNeg))))) hS hC rfl rfl rfl k

set_option maxRecDepth 20000 in
theorem bk_X10_count_6_c5 {ro : pm_RO} {Q : Option Value → pm_M → Prop} {mem : pm_M} {x1 : Int32} (k : (pm_inb (x1 - 4) 4 = true) ∧ (Q (some (.int (mem 41 ((x1 - 4).toNatClampNeg)))) mem)) : pm_Ex ro m_X10_count 6 [.ref 33, .int x1] [.int 5] mem Q := by
  have hS : pm_sig[m_X10_count]? = some _ := rfl
  have hC : pm_cod[m_X10_count]? = some _ := rfl
  refine ex_one (pc' := 83) (ls' := [.ref 33, .int x1]) (st' := []) (mem' := mem) hS hC rfl ?_
  refine ex_many (pc' := 90) (ls' := [.ref 33, .int x1]) (st' := [.int (x1 - 4), .ref 41]) (mem' := mem) hS hC 5 rfl ?_
  refine ex_grd (b := pm_inb (x1 - 4) 4) (pc' := 91) (ls' := [.ref 33, .int x1]) (st' := [.int (mem 41 ((x1 - 4).toNatClampNeg))]) (mem' := mem) hS hC rfl k.1 ?_
  replace k := k.2
  exact ex_ret (v := (some (.int (mem 41 ((x1 - 4).toNatClampNeg))))) hS hC rfl rfl rfl k

set_option maxRecDepth 20000 in
theorem bk_X10_count_6_c6 {ro : pm_RO} {Q : Option Value → pm_M → Prop} {mem : pm_M} {x1 : Int32} (k : (pm_inb (x1 - 4) 4 = true) ∧ (Q (some (.int (mem 41 ((x1 - 4).toNatClampNeg)))) mem)) : pm_Ex ro m_X10_count 6 [.ref 33, .int x1] [.int 6] mem Q := by
  have hS : pm_sig[m_X10_count]? = some _ := rfl
  have hC : pm_cod[m_X10_count]? = some _ := rfl
  refine ex_one (pc' := 83) (ls' := [.ref 33, .int x1]) (st' := []) (mem' := mem) hS hC rfl ?_
  refine ex_many (pc' := 90) (ls' := [.ref 33, .int x1]) (st' := [.int (x1 - 4), .ref 41]) (mem' := mem) hS hC 5 rfl ?_
  refine ex_grd (b := pm_inb (x1 - 4) 4) (pc' := 91) (ls' := [.ref 33, .int x1]) (st' := [.int (mem 41 ((x1 - 4).toNatClampNeg))]) (mem' := mem) hS hC rfl k.1 ?_
  replace k := k.2
  exact ex_ret (v := (some (.int (mem 41 ((x1 - 4).toNatClampNeg))))) hS hC rfl rfl rfl k

set_option maxRecDepth 20000 in
theorem bk_X10_count_6_c7 {ro : pm_RO} {Q : Option Value → pm_M → Prop} {mem : pm_M} {x1 : Int32} (k : (pm_inb (x1 - 4) 4 = true) ∧ (Q (some (.int (mem 41 ((x1 - 4).toNatClampNeg)))) mem)) : pm_Ex ro m_X10_count 6 [.ref 33, .int x1] [.int 7] mem Q := by
  have hS : pm_sig[m_X10_count]? = some _ := rfl
  have hC : pm_cod[m_X10_count]? = some _ := rfl
  refine ex_one (pc' := 83) (ls' := [.ref 33, .int x1]) (st' := []) (mem' := mem) hS hC rfl ?_
  refine ex_many (pc' := 90) (ls' := [.ref 33, .int x1]) (st' := [.int (x1 - 4), .ref 41]) (mem' := mem) hS hC 5 rfl ?_
  refine ex_grd (b := pm_inb (x1 - 4) 4) (pc' := 91) (ls' := [.ref 33, .int x1]) (st' := [.int (mem 41 ((x1 - 4).toNatClampNeg))]) (mem' := mem) hS hC rfl k.1 ?_
  replace k := k.2
  exact ex_ret (v := (some (.int (mem 41 ((x1 - 4).toNatClampNeg))))) hS hC rfl rfl rfl k

set_option maxRecDepth 20000 in
theorem bk_X10_count_6_c8 {ro : pm_RO} {Q : Option Value → pm_M → Prop} {mem : pm_M} {x1 : Int32} (k : Q (some (.int (mem 33 4))) mem) : pm_Ex ro m_X10_count 6 [.ref 33, .int x1] [.int 8] mem Q := by
  have hS : pm_sig[m_X10_count]? = some _ := rfl
  have hC : pm_cod[m_X10_count]? = some _ := rfl
  refine ex_one (pc' := 92) (ls' := [.ref 33, .int x1]) (st' := []) (mem' := mem) hS hC rfl ?_
  refine ex_many (pc' := 96) (ls' := [.ref 33, .int x1]) (st' := [.int (mem 33 4)]) (mem' := mem) hS hC 2 rfl ?_
  exact ex_ret (v := (some (.int (mem 33 4)))) hS hC rfl rfl rfl k

set_option maxRecDepth 20000 in
theorem bk_X10_count_6_d {ro : pm_RO} {Q : Option Value → pm_M → Prop} {mem : pm_M} {x1 s0 : Int32} (h0 : ¬ s0 = 0) (h1 : ¬ s0 = 1) (h2 : ¬ s0 = 2) (h3 : ¬ s0 = 3) (h4 : ¬ s0 = 4) (h5 : ¬ s0 = 5) (h6 : ¬ s0 = 6) (h7 : ¬ s0 = 7) (h8 : ¬ s0 = 8) (k : Q (some (.int (-2))) mem) : pm_Ex ro m_X10_count 6 [.ref 33, .int x1] [.int s0] mem Q := by
  have hS : pm_sig[m_X10_count]? = some _ := rfl
  have hC : pm_cod[m_X10_count]? = some _ := rfl
  refine ex_tswd hS hC rfl (a := 97) rfl (pm_out9 h0 h1 h2 h3 h4 h5 h6 h7 h8) ?_
  refine ex_many (pc' := 99) (ls' := [.ref 33, .int x1]) (st' := [.int (-2)]) (mem' := mem) hS hC 1 rfl ?_
  exact ex_ret (v := (some (.int (-2)))) hS hC rfl rfl rfl k

set_option maxRecDepth 20000 in
theorem bk_X10_count_4 {ro : pm_RO} {Q : Option Value → pm_M → Prop} {mem : pm_M} {x1 s0 : Int32} (k : pm_Ex ro m_X10_count 6 [.ref 33, .int x1] [.int x1] mem Q) : pm_Ex ro m_X10_count 4 [.ref 33, .int x1] [.int s0] mem Q := by
  have hS : pm_sig[m_X10_count]? = some _ := rfl
  have hC : pm_cod[m_X10_count]? = some _ := rfl
  refine ex_many (pc' := 6) (ls' := [.ref 33, .int x1]) (st' := [.int x1]) (mem' := mem) hS hC 2 rfl ?_
  exact k

set_option maxRecDepth 20000 in
theorem bk_X10_count_73 {ro : pm_RO} {Q : Option Value → pm_M → Prop} {mem : pm_M} {x1 s0 : Int32} (k : Q (some (.int s0)) mem) : pm_Ex ro m_X10_count 73 [.ref 33, .int x1] [.int s0] mem Q := by
  have hS : pm_sig[m_X10_count]? = some _ := rfl
  have hC : pm_cod[m_X10_count]? = some _ := rfl
  exact ex_ret (v := (some (.int s0))) hS hC rfl rfl rfl k

set_option maxRecDepth 20000 in
theorem bk_X10_count_82 {ro : pm_RO} {Q : Option Value → pm_M → Prop} {mem : pm_M} {x1 s0 : Int32} (k : Q (some (.int s0)) mem) : pm_Ex ro m_X10_count 82 [.ref 33, .int x1] [.int s0] mem Q := by
  have hS : pm_sig[m_X10_count]? = some _ := rfl
  have hC : pm_cod[m_X10_count]? = some _ := rfl
  exact ex_ret (v := (some (.int s0))) hS hC rfl rfl rfl k
end
