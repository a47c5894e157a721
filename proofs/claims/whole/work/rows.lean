section
-- ===== PART A: goes FIRST, ahead of the names: the tables' words, and 'selects' of the private methods out of them =====
/-- a private method of a class that the tables say can be made, by its rows of tables_1 -/
def lw_okq (q : MethodName × Nat) : Prop := (q.1.cls ≠ "java/lang/invoke/MethodHandle" ∧ q.1.cls ≠ "java/lang/invoke/VarHandle") ∧ Cond.instantiable q.1.cls q.2 ∈ tables_1 ∧ Cond.privateMethod q.1 ∈ tables_1 ∧ Cond.instanceMethod q.1 ∈ tables_1
theorem lw_p0 : lw_okq (⟨"ThirdAlike$State", "areNeighbours", "(II)Z"⟩, 12) := ⟨⟨by decide +kernel, by decide +kernel⟩, List.mem_of_getElem? (i := 138) (by decide +kernel), List.mem_of_getElem? (i := 148) (by decide +kernel), List.mem_of_getElem? (i := 149) (by decide +kernel)⟩
theorem lw_p1 : lw_okq (⟨"ThirdAlike", "isHouse", "(I)Z"⟩, 10) := ⟨⟨by decide +kernel, by decide +kernel⟩, List.mem_of_getElem? (i := 17) (by decide +kernel), List.mem_of_getElem? (i := 294) (by decide +kernel), List.mem_of_getElem? (i := 295) (by decide +kernel)⟩
theorem lw_p2 : lw_okq (⟨"ThirdAlike", "isPerson", "(I)Z"⟩, 10) := ⟨⟨by decide +kernel, by decide +kernel⟩, List.mem_of_getElem? (i := 17) (by decide +kernel), List.mem_of_getElem? (i := 314) (by decide +kernel), List.mem_of_getElem? (i := 315) (by decide +kernel)⟩
theorem lw_p3 : lw_okq (⟨"ThirdAlike$Life", "weigh", "(II)V"⟩, 9) := ⟨⟨by decide +kernel, by decide +kernel⟩, List.mem_of_getElem? (i := 215) (by decide +kernel), List.mem_of_getElem? (i := 333) (by decide +kernel), List.mem_of_getElem? (i := 334) (by decide +kernel)⟩
theorem lw_p4 : lw_okq (⟨"ThirdAlike$Life", "nearest", "(II)I"⟩, 9) := ⟨⟨by decide +kernel, by decide +kernel⟩, List.mem_of_getElem? (i := 215) (by decide +kernel), List.mem_of_getElem? (i := 353) (by decide +kernel), List.mem_of_getElem? (i := 354) (by decide +kernel)⟩
theorem lw_p5 : lw_okq (⟨"ThirdAlike$Life", "nextBehind", "(I)I"⟩, 9) := ⟨⟨by decide +kernel, by decide +kernel⟩, List.mem_of_getElem? (i := 215) (by decide +kernel), List.mem_of_getElem? (i := 360) (by decide +kernel), List.mem_of_getElem? (i := 361) (by decide +kernel)⟩
theorem lw_p6 : lw_okq (⟨"ThirdAlike$Life", "partnerOf", "(I)I"⟩, 9) := ⟨⟨by decide +kernel, by decide +kernel⟩, List.mem_of_getElem? (i := 215) (by decide +kernel), List.mem_of_getElem? (i := 364) (by decide +kernel), List.mem_of_getElem? (i := 365) (by decide +kernel)⟩
theorem lw_p7 : lw_okq (⟨"ThirdAlike$Life", "changeHouses", "(II)V"⟩, 9) := ⟨⟨by decide +kernel, by decide +kernel⟩, List.mem_of_getElem? (i := 215) (by decide +kernel), List.mem_of_getElem? (i := 368) (by decide +kernel), List.mem_of_getElem? (i := 369) (by decide +kernel)⟩
theorem lw_p8 : lw_okq (⟨"ThirdAlike$Life", "least", "(I)I"⟩, 9) := ⟨⟨by decide +kernel, by decide +kernel⟩, List.mem_of_getElem? (i := 215) (by decide +kernel), List.mem_of_getElem? (i := 372) (by decide +kernel), List.mem_of_getElem? (i := 373) (by decide +kernel)⟩
theorem lw_p9 : lw_okq (⟨"ThirdAlike$Text", "lookAt", "(I)V"⟩, 6) := ⟨⟨by decide +kernel, by decide +kernel⟩, List.mem_of_getElem? (i := 29) (by decide +kernel), List.mem_of_getElem? (i := 400) (by decide +kernel), List.mem_of_getElem? (i := 401) (by decide +kernel)⟩
theorem lw_p10 : lw_okq (⟨"ThirdAlike$Text", "expect", "(I)V"⟩, 6) := ⟨⟨by decide +kernel, by decide +kernel⟩, List.mem_of_getElem? (i := 29) (by decide +kernel), List.mem_of_getElem? (i := 404) (by decide +kernel), List.mem_of_getElem? (i := 405) (by decide +kernel)⟩
theorem lw_p11 : lw_okq (⟨"ThirdAlike$Text", "readClause", "()V"⟩, 6) := ⟨⟨by decide +kernel, by decide +kernel⟩, List.mem_of_getElem? (i := 29) (by decide +kernel), List.mem_of_getElem? (i := 408) (by decide +kernel), List.mem_of_getElem? (i := 409) (by decide +kernel)⟩
theorem lw_p12 : lw_okq (⟨"ThirdAlike$Text", "readNumber", "()I"⟩, 6) := ⟨⟨by decide +kernel, by decide +kernel⟩, List.mem_of_getElem? (i := 29) (by decide +kernel), List.mem_of_getElem? (i := 463) (by decide +kernel), List.mem_of_getElem? (i := 464) (by decide +kernel)⟩
theorem lw_p13 : lw_okq (⟨"ThirdAlike$Text", "readOneOf", "(Ljava/lang/String;)I"⟩, 6) := ⟨⟨by decide +kernel, by decide +kernel⟩, List.mem_of_getElem? (i := 29) (by decide +kernel), List.mem_of_getElem? (i := 481) (by decide +kernel), List.mem_of_getElem? (i := 482) (by decide +kernel)⟩
theorem lw_p14 : lw_okq (⟨"ThirdAlike$Actor", "begin", "(I)V"⟩, 5) := ⟨⟨by decide +kernel, by decide +kernel⟩, List.mem_of_getElem? (i := 56) (by decide +kernel), List.mem_of_getElem? (i := 633) (by decide +kernel), List.mem_of_getElem? (i := 634) (by decide +kernel)⟩
theorem lw_p15 : lw_okq (⟨"ThirdAlikeModel", "isHouse", "(I)Z"⟩, 52) := ⟨⟨by decide +kernel, by decide +kernel⟩, List.mem_of_getElem? (i := 689) (by decide +kernel), List.mem_of_getElem? (i := 857) (by decide +kernel), List.mem_of_getElem? (i := 858) (by decide +kernel)⟩
def lw_privs_1 : List (MethodName × Nat) := [(⟨"ThirdAlike$State", "areNeighbours", "(II)Z"⟩, 12), (⟨"ThirdAlike", "isHouse", "(I)Z"⟩, 10), (⟨"ThirdAlike", "isPerson", "(I)Z"⟩, 10), (⟨"ThirdAlike$Life", "weigh", "(II)V"⟩, 9), (⟨"ThirdAlike$Life", "nearest", "(II)I"⟩, 9), (⟨"ThirdAlike$Life", "nextBehind", "(I)I"⟩, 9), (⟨"ThirdAlike$Life", "partnerOf", "(I)I"⟩, 9), (⟨"ThirdAlike$Life", "changeHouses", "(II)V"⟩, 9), (⟨"ThirdAlike$Life", "least", "(I)I"⟩, 9), (⟨"ThirdAlike$Text", "lookAt", "(I)V"⟩, 6), (⟨"ThirdAlike$Text", "expect", "(I)V"⟩, 6), (⟨"ThirdAlike$Text", "readClause", "()V"⟩, 6), (⟨"ThirdAlike$Text", "readNumber", "()I"⟩, 6), (⟨"ThirdAlike$Text", "readOneOf", "(Ljava/lang/String;)I"⟩, 6), (⟨"ThirdAlike$Actor", "begin", "(I)V"⟩, 5), (⟨"ThirdAlikeModel", "isHouse", "(I)Z"⟩, 52)]
theorem lw_r1 : ∀ q ∈ lw_privs_1, lw_okq q := List.forall_mem_cons.mpr ⟨lw_p0, List.forall_mem_cons.mpr ⟨lw_p1, List.forall_mem_cons.mpr ⟨lw_p2, List.forall_mem_cons.mpr ⟨lw_p3, List.forall_mem_cons.mpr ⟨lw_p4, List.forall_mem_cons.mpr ⟨lw_p5, List.forall_mem_cons.mpr ⟨lw_p6, List.forall_mem_cons.mpr ⟨lw_p7, List.forall_mem_cons.mpr ⟨lw_p8, List.forall_mem_cons.mpr ⟨lw_p9, List.forall_mem_cons.mpr ⟨lw_p10, List.forall_mem_cons.mpr ⟨lw_p11, List.forall_mem_cons.mpr ⟨lw_p12, List.forall_mem_cons.mpr ⟨lw_p13, List.forall_mem_cons.mpr ⟨lw_p14, List.forall_mem_cons.mpr ⟨lw_p15, fun _ h => absurd h List.not_mem_nil⟩⟩⟩⟩⟩⟩⟩⟩⟩⟩⟩⟩⟩⟩⟩⟩
theorem lw_p16 : lw_okq (⟨"ThirdAlikeModel", "in", "(III)Z"⟩, 52) := ⟨⟨by decide +kernel, by decide +kernel⟩, List.mem_of_getElem? (i := 689) (by decide +kernel), List.mem_of_getElem? (i := 861) (by decide +kernel), List.mem_of_getElem? (i := 862) (by decide +kernel)⟩
theorem lw_p17 : lw_okq (⟨"ThirdAlikeModel", "areNext", "(II)Z"⟩, 52) := ⟨⟨by decide +kernel, by decide +kernel⟩, List.mem_of_getElem? (i := 689) (by decide +kernel), List.mem_of_getElem? (i := 865) (by decide +kernel), List.mem_of_getElem? (i := 866) (by decide +kernel)⟩
theorem lw_p18 : lw_okq (⟨"ThirdAlikeModel", "whoIn", "(I)I"⟩, 52) := ⟨⟨by decide +kernel, by decide +kernel⟩, List.mem_of_getElem? (i := 689) (by decide +kernel), List.mem_of_getElem? (i := 877) (by decide +kernel), List.mem_of_getElem? (i := 878) (by decide +kernel)⟩
theorem lw_p19 : lw_okq (⟨"ThirdAlikeModel", "isPerson", "(I)Z"⟩, 52) := ⟨⟨by decide +kernel, by decide +kernel⟩, List.mem_of_getElem? (i := 689) (by decide +kernel), List.mem_of_getElem? (i := 885) (by decide +kernel), List.mem_of_getElem? (i := 886) (by decide +kernel)⟩
theorem lw_p20 : lw_okq (⟨"ThirdAlikeModel", "goesText", "(I)Z"⟩, 52) := ⟨⟨by decide +kernel, by decide +kernel⟩, List.mem_of_getElem? (i := 689) (by decide +kernel), List.mem_of_getElem? (i := 897) (by decide +kernel), List.mem_of_getElem? (i := 898) (by decide +kernel)⟩
theorem lw_p21 : lw_okq (⟨"ThirdAlikeModel", "takesClause", "(I)Z"⟩, 52) := ⟨⟨by decide +kernel, by decide +kernel⟩, List.mem_of_getElem? (i := 689) (by decide +kernel), List.mem_of_getElem? (i := 901) (by decide +kernel), List.mem_of_getElem? (i := 902) (by decide +kernel)⟩
theorem lw_p22 : lw_okq (⟨"ThirdAlikeModel", "takesHead", "(I)Z"⟩, 52) := ⟨⟨by decide +kernel, by decide +kernel⟩, List.mem_of_getElem? (i := 689) (by decide +kernel), List.mem_of_getElem? (i := 905) (by decide +kernel), List.mem_of_getElem? (i := 906) (by decide +kernel)⟩
theorem lw_p23 : lw_okq (⟨"ThirdAlikeModel", "next", "()I"⟩, 52) := ⟨⟨by decide +kernel, by decide +kernel⟩, List.mem_of_getElem? (i := 689) (by decide +kernel), List.mem_of_getElem? (i := 909) (by decide +kernel), List.mem_of_getElem? (i := 910) (by decide +kernel)⟩
theorem lw_p24 : lw_okq (⟨"ThirdAlikeModel", "takesWord", "(II)Z"⟩, 52) := ⟨⟨by decide +kernel, by decide +kernel⟩, List.mem_of_getElem? (i := 689) (by decide +kernel), List.mem_of_getElem? (i := 913) (by decide +kernel), List.mem_of_getElem? (i := 914) (by decide +kernel)⟩
theorem lw_p25 : lw_okq (⟨"ThirdAlikeModel", "takes", "(I)Z"⟩, 52) := ⟨⟨by decide +kernel, by decide +kernel⟩, List.mem_of_getElem? (i := 689) (by decide +kernel), List.mem_of_getElem? (i := 917) (by decide +kernel), List.mem_of_getElem? (i := 918) (by decide +kernel)⟩
theorem lw_p26 : lw_okq (⟨"ThirdAlikeModel", "takesNumber", "()Z"⟩, 52) := ⟨⟨by decide +kernel, by decide +kernel⟩, List.mem_of_getElem? (i := 689) (by decide +kernel), List.mem_of_getElem? (i := 921) (by decide +kernel), List.mem_of_getElem? (i := 922) (by decide +kernel)⟩
theorem lw_p27 : lw_okq (⟨"ThirdAlikeModel", "isDigit", "()Z"⟩, 52) := ⟨⟨by decide +kernel, by decide +kernel⟩, List.mem_of_getElem? (i := 689) (by decide +kernel), List.mem_of_getElem? (i := 925) (by decide +kernel), List.mem_of_getElem? (i := 926) (by decide +kernel)⟩
theorem lw_p28 : lw_okq (⟨"ThirdAlikeModel", "takesE", "(I)Z"⟩, 52) := ⟨⟨by decide +kernel, by decide +kernel⟩, List.mem_of_getElem? (i := 689) (by decide +kernel), List.mem_of_getElem? (i := 929) (by decide +kernel), List.mem_of_getElem? (i := 930) (by decide +kernel)⟩
theorem lw_p29 : lw_okq (⟨"ThirdAlikeModel", "takesTest", "()Z"⟩, 52) := ⟨⟨by decide +kernel, by decide +kernel⟩, List.mem_of_getElem? (i := 689) (by decide +kernel), List.mem_of_getElem? (i := 933) (by decide +kernel), List.mem_of_getElem? (i := 934) (by decide +kernel)⟩
theorem lw_p30 : lw_okq (⟨"ThirdAlikeModel", "place", "(I)I"⟩, 52) := ⟨⟨by decide +kernel, by decide +kernel⟩, List.mem_of_getElem? (i := 689) (by decide +kernel), List.mem_of_getElem? (i := 937) (by decide +kernel), List.mem_of_getElem? (i := 938) (by decide +kernel)⟩
theorem lw_p31 : lw_okq (⟨"ThirdAlikeModel", "emits", "(I)V"⟩, 52) := ⟨⟨by decide +kernel, by decide +kernel⟩, List.mem_of_getElem? (i := 689) (by decide +kernel), List.mem_of_getElem? (i := 941) (by decide +kernel), List.mem_of_getElem? (i := 942) (by decide +kernel)⟩
def lw_privs_2 : List (MethodName × Nat) := [(⟨"ThirdAlikeModel", "in", "(III)Z"⟩, 52), (⟨"ThirdAlikeModel", "areNext", "(II)Z"⟩, 52), (⟨"ThirdAlikeModel", "whoIn", "(I)I"⟩, 52), (⟨"ThirdAlikeModel", "isPerson", "(I)Z"⟩, 52), (⟨"ThirdAlikeModel", "goesText", "(I)Z"⟩, 52), (⟨"ThirdAlikeModel", "takesClause", "(I)Z"⟩, 52), (⟨"ThirdAlikeModel", "takesHead", "(I)Z"⟩, 52), (⟨"ThirdAlikeModel", "next", "()I"⟩, 52), (⟨"ThirdAlikeModel", "takesWord", "(II)Z"⟩, 52), (⟨"ThirdAlikeModel", "takes", "(I)Z"⟩, 52), (⟨"ThirdAlikeModel", "takesNumber", "()Z"⟩, 52), (⟨"ThirdAlikeModel", "isDigit", "()Z"⟩, 52), (⟨"ThirdAlikeModel", "takesE", "(I)Z"⟩, 52), (⟨"ThirdAlikeModel", "takesTest", "()Z"⟩, 52), (⟨"ThirdAlikeModel", "place", "(I)I"⟩, 52), (⟨"ThirdAlikeModel", "emits", "(I)V"⟩, 52)]
theorem lw_r2 : ∀ q ∈ lw_privs_2, lw_okq q := List.forall_mem_cons.mpr ⟨lw_p16, List.forall_mem_cons.mpr ⟨lw_p17, List.forall_mem_cons.mpr ⟨lw_p18, List.forall_mem_cons.mpr ⟨lw_p19, List.forall_mem_cons.mpr ⟨lw_p20, List.forall_mem_cons.mpr ⟨lw_p21, List.forall_mem_cons.mpr ⟨lw_p22, List.forall_mem_cons.mpr ⟨lw_p23, List.forall_mem_cons.mpr ⟨lw_p24, List.forall_mem_cons.mpr ⟨lw_p25, List.forall_mem_cons.mpr ⟨lw_p26, List.forall_mem_cons.mpr ⟨lw_p27, List.forall_mem_cons.mpr ⟨lw_p28, List.forall_mem_cons.mpr ⟨lw_p29, List.forall_mem_cons.mpr ⟨lw_p30, List.forall_mem_cons.mpr ⟨lw_p31, fun _ h => absurd h List.not_mem_nil⟩⟩⟩⟩⟩⟩⟩⟩⟩⟩⟩⟩⟩⟩⟩⟩
theorem lw_p32 : lw_okq (⟨"ThirdAlikeModel", "whole", "()V"⟩, 52) := ⟨⟨by decide +kernel, by decide +kernel⟩, List.mem_of_getElem? (i := 689) (by decide +kernel), List.mem_of_getElem? (i := 945) (by decide +kernel), List.mem_of_getElem? (i := 946) (by decide +kernel)⟩
theorem lw_p33 : lw_okq (⟨"ThirdAlikeModel", "settle", "(I)V"⟩, 52) := ⟨⟨by decide +kernel, by decide +kernel⟩, List.mem_of_getElem? (i := 689) (by decide +kernel), List.mem_of_getElem? (i := 949) (by decide +kernel), List.mem_of_getElem? (i := 950) (by decide +kernel)⟩
theorem lw_p34 : lw_okq (⟨"ThirdAlikeModel", "beside", "(IIZ)I"⟩, 52) := ⟨⟨by decide +kernel, by decide +kernel⟩, List.mem_of_getElem? (i := 689) (by decide +kernel), List.mem_of_getElem? (i := 957) (by decide +kernel), List.mem_of_getElem? (i := 958) (by decide +kernel)⟩
theorem lw_p35 : lw_okq (⟨"ThirdAlikeModel", "wishOf", "(III)I"⟩, 52) := ⟨⟨by decide +kernel, by decide +kernel⟩, List.mem_of_getElem? (i := 689) (by decide +kernel), List.mem_of_getElem? (i := 961) (by decide +kernel), List.mem_of_getElem? (i := 962) (by decide +kernel)⟩
theorem lw_p36 : lw_okq (⟨"ThirdAlikeModel", "firstClause", "()I"⟩, 52) := ⟨⟨by decide +kernel, by decide +kernel⟩, List.mem_of_getElem? (i := 689) (by decide +kernel), List.mem_of_getElem? (i := 965) (by decide +kernel), List.mem_of_getElem? (i := 966) (by decide +kernel)⟩
theorem lw_p37 : lw_okq (⟨"ThirdAlikeModel", "behind", "()I"⟩, 52) := ⟨⟨by decide +kernel, by decide +kernel⟩, List.mem_of_getElem? (i := 689) (by decide +kernel), List.mem_of_getElem? (i := 969) (by decide +kernel), List.mem_of_getElem? (i := 970) (by decide +kernel)⟩
theorem lw_p38 : lw_okq (⟨"ThirdAlikeModel", "sumOf", "(IIII)I"⟩, 52) := ⟨⟨by decide +kernel, by decide +kernel⟩, List.mem_of_getElem? (i := 689) (by decide +kernel), List.mem_of_getElem? (i := 973) (by decide +kernel), List.mem_of_getElem? (i := 974) (by decide +kernel)⟩
theorem lw_p39 : lw_okq (⟨"ThirdAlikeModel", "isSo", "(IIII)Z"⟩, 52) := ⟨⟨by decide +kernel, by decide +kernel⟩, List.mem_of_getElem? (i := 689) (by decide +kernel), List.mem_of_getElem? (i := 977) (by decide +kernel), List.mem_of_getElem? (i := 978) (by decide +kernel)⟩
theorem lw_p40 : lw_okq (⟨"ThirdAlikeModel", "factOf", "(IIII)I"⟩, 52) := ⟨⟨by decide +kernel, by decide +kernel⟩, List.mem_of_getElem? (i := 689) (by decide +kernel), List.mem_of_getElem? (i := 981) (by decide +kernel), List.mem_of_getElem? (i := 982) (by decide +kernel)⟩
theorem lw_p41 : lw_okq (⟨"ThirdAlikeModel", "mostOf", "(III)I"⟩, 52) := ⟨⟨by decide +kernel, by decide +kernel⟩, List.mem_of_getElem? (i := 689) (by decide +kernel), List.mem_of_getElem? (i := 985) (by decide +kernel), List.mem_of_getElem? (i := 986) (by decide +kernel)⟩
theorem lw_p42 : lw_okq (⟨"ThirdAlikeModel", "isContent", "(I)Z"⟩, 52) := ⟨⟨by decide +kernel, by decide +kernel⟩, List.mem_of_getElem? (i := 689) (by decide +kernel), List.mem_of_getElem? (i := 989) (by decide +kernel), List.mem_of_getElem? (i := 990) (by decide +kernel)⟩
theorem lw_p43 : lw_okq (⟨"ThirdAlikeModel", "isContentIn", "(II)Z"⟩, 52) := ⟨⟨by decide +kernel, by decide +kernel⟩, List.mem_of_getElem? (i := 689) (by decide +kernel), List.mem_of_getElem? (i := 993) (by decide +kernel), List.mem_of_getElem? (i := 994) (by decide +kernel)⟩
theorem lw_p44 : lw_okq (⟨"ThirdAlikeModel", "goesTo", "(I)I"⟩, 52) := ⟨⟨by decide +kernel, by decide +kernel⟩, List.mem_of_getElem? (i := 689) (by decide +kernel), List.mem_of_getElem? (i := 997) (by decide +kernel), List.mem_of_getElem? (i := 998) (by decide +kernel)⟩
theorem lw_p45 : lw_okq (⟨"ThirdAlikeModel", "wanted", "(I)I"⟩, 52) := ⟨⟨by decide +kernel, by decide +kernel⟩, List.mem_of_getElem? (i := 689) (by decide +kernel), List.mem_of_getElem? (i := 1001) (by decide +kernel), List.mem_of_getElem? (i := 1002) (by decide +kernel)⟩
theorem lw_p46 : lw_okq (⟨"ThirdAlikeModel", "freeOnes", "()I"⟩, 52) := ⟨⟨by decide +kernel, by decide +kernel⟩, List.mem_of_getElem? (i := 689) (by decide +kernel), List.mem_of_getElem? (i := 1005) (by decide +kernel), List.mem_of_getElem? (i := 1006) (by decide +kernel)⟩
theorem lw_p47 : lw_okq (⟨"ThirdAlikeModel", "has", "(II)Z"⟩, 52) := ⟨⟨by decide +kernel, by decide +kernel⟩, List.mem_of_getElem? (i := 689) (by decide +kernel), List.mem_of_getElem? (i := 1009) (by decide +kernel), List.mem_of_getElem? (i := 1010) (by decide +kernel)⟩
def lw_privs_3 : List (MethodName × Nat) := [(⟨"ThirdAlikeModel", "whole", "()V"⟩, 52), (⟨"ThirdAlikeModel", "settle", "(I)V"⟩, 52), (⟨"ThirdAlikeModel", "beside", "(IIZ)I"⟩, 52), (⟨"ThirdAlikeModel", "wishOf", "(III)I"⟩, 52), (⟨"ThirdAlikeModel", "firstClause", "()I"⟩, 52), (⟨"ThirdAlikeModel", "behind", "()I"⟩, 52), (⟨"ThirdAlikeModel", "sumOf", "(IIII)I"⟩, 52), (⟨"ThirdAlikeModel", "isSo", "(IIII)Z"⟩, 52), (⟨"ThirdAlikeModel", "factOf", "(IIII)I"⟩, 52), (⟨"ThirdAlikeModel", "mostOf", "(III)I"⟩, 52), (⟨"ThirdAlikeModel", "isContent", "(I)Z"⟩, 52), (⟨"ThirdAlikeModel", "isContentIn", "(II)Z"⟩, 52), (⟨"ThirdAlikeModel", "goesTo", "(I)I"⟩, 52), (⟨"ThirdAlikeModel", "wanted", "(I)I"⟩, 52), (⟨"ThirdAlikeModel", "freeOnes", "()I"⟩, 52), (⟨"ThirdAlikeModel", "has", "(II)Z"⟩, 52)]
theorem lw_r3 : ∀ q ∈ lw_privs_3, lw_okq q := List.forall_mem_cons.mpr ⟨lw_p32, List.forall_mem_cons.mpr ⟨lw_p33, List.forall_mem_cons.mpr ⟨lw_p34, List.forall_mem_cons.mpr ⟨lw_p35, List.forall_mem_cons.mpr ⟨lw_p36, List.forall_mem_cons.mpr ⟨lw_p37, List.forall_mem_cons.mpr ⟨lw_p38, List.forall_mem_cons.mpr ⟨lw_p39, List.forall_mem_cons.mpr ⟨lw_p40, List.forall_mem_cons.mpr ⟨lw_p41, List.forall_mem_cons.mpr ⟨lw_p42, List.forall_mem_cons.mpr ⟨lw_p43, List.forall_mem_cons.mpr ⟨lw_p44, List.forall_mem_cons.mpr ⟨lw_p45, List.forall_mem_cons.mpr ⟨lw_p46, List.forall_mem_cons.mpr ⟨lw_p47, fun _ h => absurd h List.not_mem_nil⟩⟩⟩⟩⟩⟩⟩⟩⟩⟩⟩⟩⟩⟩⟩⟩
theorem lw_p48 : lw_okq (⟨"ThirdAlikeModel", "nearest", "(II)I"⟩, 52) := ⟨⟨by decide +kernel, by decide +kernel⟩, List.mem_of_getElem? (i := 689) (by decide +kernel), List.mem_of_getElem? (i := 1013) (by decide +kernel), List.mem_of_getElem? (i := 1014) (by decide +kernel)⟩
theorem lw_p49 : lw_okq (⟨"ThirdAlikeModel", "behindOwn", "(II)I"⟩, 52) := ⟨⟨by decide +kernel, by decide +kernel⟩, List.mem_of_getElem? (i := 689) (by decide +kernel), List.mem_of_getElem? (i := 1017) (by decide +kernel), List.mem_of_getElem? (i := 1018) (by decide +kernel)⟩
theorem lw_p50 : lw_okq (⟨"ThirdAlikeModel", "swapsTo", "(I)I"⟩, 52) := ⟨⟨by decide +kernel, by decide +kernel⟩, List.mem_of_getElem? (i := 689) (by decide +kernel), List.mem_of_getElem? (i := 1021) (by decide +kernel), List.mem_of_getElem? (i := 1022) (by decide +kernel)⟩
theorem lw_p51 : lw_okq (⟨"ThirdAlikeModel", "partner", "(I)I"⟩, 52) := ⟨⟨by decide +kernel, by decide +kernel⟩, List.mem_of_getElem? (i := 689) (by decide +kernel), List.mem_of_getElem? (i := 1025) (by decide +kernel), List.mem_of_getElem? (i := 1026) (by decide +kernel)⟩
theorem lw_p52 : lw_okq (⟨"ThirdAlikeModel", "changes", "(II)V"⟩, 52) := ⟨⟨by decide +kernel, by decide +kernel⟩, List.mem_of_getElem? (i := 689) (by decide +kernel), List.mem_of_getElem? (i := 1029) (by decide +kernel), List.mem_of_getElem? (i := 1030) (by decide +kernel)⟩
theorem lw_p53 : lw_okq (⟨"ThirdAlikeModel", "leastOf", "(I)I"⟩, 52) := ⟨⟨by decide +kernel, by decide +kernel⟩, List.mem_of_getElem? (i := 689) (by decide +kernel), List.mem_of_getElem? (i := 1033) (by decide +kernel), List.mem_of_getElem? (i := 1034) (by decide +kernel)⟩
theorem lw_p54 : lw_okq (⟨"ThirdAlikeModel", "cheap", "(II)I"⟩, 52) := ⟨⟨by decide +kernel, by decide +kernel⟩, List.mem_of_getElem? (i := 689) (by decide +kernel), List.mem_of_getElem? (i := 1037) (by decide +kernel), List.mem_of_getElem? (i := 1038) (by decide +kernel)⟩
theorem lw_p55 : lw_okq (⟨"ThirdAlikeModel", "pairs", "(Z)I"⟩, 52) := ⟨⟨by decide +kernel, by decide +kernel⟩, List.mem_of_getElem? (i := 689) (by decide +kernel), List.mem_of_getElem? (i := 1045) (by decide +kernel), List.mem_of_getElem? (i := 1046) (by decide +kernel)⟩
theorem lw_p56 : lw_okq (⟨"ThirdAlikeModel", "happy", "()I"⟩, 52) := ⟨⟨by decide +kernel, by decide +kernel⟩, List.mem_of_getElem? (i := 689) (by decide +kernel), List.mem_of_getElem? (i := 1049) (by decide +kernel), List.mem_of_getElem? (i := 1050) (by decide +kernel)⟩
theorem lw_p57 : lw_okq (⟨"ThirdAlikeModel", "goMove", "()I"⟩, 52) := ⟨⟨by decide +kernel, by decide +kernel⟩, List.mem_of_getElem? (i := 689) (by decide +kernel), List.mem_of_getElem? (i := 1057) (by decide +kernel), List.mem_of_getElem? (i := 1058) (by decide +kernel)⟩
theorem lw_p58 : lw_okq (⟨"ThirdAlikeModel", "keep", "()V"⟩, 52) := ⟨⟨by decide +kernel, by decide +kernel⟩, List.mem_of_getElem? (i := 689) (by decide +kernel), List.mem_of_getElem? (i := 1065) (by decide +kernel), List.mem_of_getElem? (i := 1066) (by decide +kernel)⟩
theorem lw_p59 : lw_okq (⟨"ThirdAlikeModel", "goMoves", "(I)I"⟩, 52) := ⟨⟨by decide +kernel, by decide +kernel⟩, List.mem_of_getElem? (i := 689) (by decide +kernel), List.mem_of_getElem? (i := 1069) (by decide +kernel), List.mem_of_getElem? (i := 1070) (by decide +kernel)⟩
theorem lw_p60 : lw_okq (⟨"ThirdAlikeModel", "putBack", "()V"⟩, 52) := ⟨⟨by decide +kernel, by decide +kernel⟩, List.mem_of_getElem? (i := 689) (by decide +kernel), List.mem_of_getElem? (i := 1073) (by decide +kernel), List.mem_of_getElem? (i := 1074) (by decide +kernel)⟩
theorem lw_p61 : lw_okq (⟨"ThirdAlikeModel", "areKept", "()Z"⟩, 52) := ⟨⟨by decide +kernel, by decide +kernel⟩, List.mem_of_getElem? (i := 689) (by decide +kernel), List.mem_of_getElem? (i := 1085) (by decide +kernel), List.mem_of_getElem? (i := 1086) (by decide +kernel)⟩
theorem lw_p62 : lw_okq (⟨"ThirdAlikeModel", "layWays", "()V"⟩, 52) := ⟨⟨by decide +kernel, by decide +kernel⟩, List.mem_of_getElem? (i := 689) (by decide +kernel), List.mem_of_getElem? (i := 1093) (by decide +kernel), List.mem_of_getElem? (i := 1094) (by decide +kernel)⟩
theorem lw_p63 : lw_okq (⟨"ThirdAlikeModel", "areUnlike", "()Z"⟩, 52) := ⟨⟨by decide +kernel, by decide +kernel⟩, List.mem_of_getElem? (i := 689) (by decide +kernel), List.mem_of_getElem? (i := 1097) (by decide +kernel), List.mem_of_getElem? (i := 1098) (by decide +kernel)⟩
def lw_privs_4 : List (MethodName × Nat) := [(⟨"ThirdAlikeModel", "nearest", "(II)I"⟩, 52), (⟨"ThirdAlikeModel", "behindOwn", "(II)I"⟩, 52), (⟨"ThirdAlikeModel", "swapsTo", "(I)I"⟩, 52), (⟨"ThirdAlikeModel", "partner", "(I)I"⟩, 52), (⟨"ThirdAlikeModel", "changes", "(II)V"⟩, 52), (⟨"ThirdAlikeModel", "leastOf", "(I)I"⟩, 52), (⟨"ThirdAlikeModel", "cheap", "(II)I"⟩, 52), (⟨"ThirdAlikeModel", "pairs", "(Z)I"⟩, 52), (⟨"ThirdAlikeModel", "happy", "()I"⟩, 52), (⟨"ThirdAlikeModel", "goMove", "()I"⟩, 52), (⟨"ThirdAlikeModel", "keep", "()V"⟩, 52), (⟨"ThirdAlikeModel", "goMoves", "(I)I"⟩, 52), (⟨"ThirdAlikeModel", "putBack", "()V"⟩, 52), (⟨"ThirdAlikeModel", "areKept", "()Z"⟩, 52), (⟨"ThirdAlikeModel", "layWays", "()V"⟩, 52), (⟨"ThirdAlikeModel", "areUnlike", "()Z"⟩, 52)]
theorem lw_r4 : ∀ q ∈ lw_privs_4, lw_okq q := List.forall_mem_cons.mpr ⟨lw_p48, List.forall_mem_cons.mpr ⟨lw_p49, List.forall_mem_cons.mpr ⟨lw_p50, List.forall_mem_cons.mpr ⟨lw_p51, List.forall_mem_cons.mpr ⟨lw_p52, List.forall_mem_cons.mpr ⟨lw_p53, List.forall_mem_cons.mpr ⟨lw_p54, List.forall_mem_cons.mpr ⟨lw_p55, List.forall_mem_cons.mpr ⟨lw_p56, List.forall_mem_cons.mpr ⟨lw_p57, List.forall_mem_cons.mpr ⟨lw_p58, List.forall_mem_cons.mpr ⟨lw_p59, List.forall_mem_cons.mpr ⟨lw_p60, List.forall_mem_cons.mpr ⟨lw_p61, List.forall_mem_cons.mpr ⟨lw_p62, List.forall_mem_cons.mpr ⟨lw_p63, fun _ h => absurd h List.not_mem_nil⟩⟩⟩⟩⟩⟩⟩⟩⟩⟩⟩⟩⟩⟩⟩⟩
theorem lw_p64 : lw_okq (⟨"ThirdAlikeModel", "areAll", "()Z"⟩, 52) := ⟨⟨by decide +kernel, by decide +kernel⟩, List.mem_of_getElem? (i := 689) (by decide +kernel), List.mem_of_getElem? (i := 1101) (by decide +kernel), List.mem_of_getElem? (i := 1102) (by decide +kernel)⟩
theorem lw_p65 : lw_okq (⟨"ThirdAlikeModel", "takeWay", "()V"⟩, 52) := ⟨⟨by decide +kernel, by decide +kernel⟩, List.mem_of_getElem? (i := 689) (by decide +kernel), List.mem_of_getElem? (i := 1105) (by decide +kernel), List.mem_of_getElem? (i := 1106) (by decide +kernel)⟩
theorem lw_p66 : lw_okq (⟨"ThirdAlikeModel", "nextWay", "()Z"⟩, 52) := ⟨⟨by decide +kernel, by decide +kernel⟩, List.mem_of_getElem? (i := 689) (by decide +kernel), List.mem_of_getElem? (i := 1109) (by decide +kernel), List.mem_of_getElem? (i := 1110) (by decide +kernel)⟩
theorem lw_p67 : lw_okq (⟨"ThirdAlikeModel", "isHeldBy", "(II)Z"⟩, 52) := ⟨⟨by decide +kernel, by decide +kernel⟩, List.mem_of_getElem? (i := 689) (by decide +kernel), List.mem_of_getElem? (i := 1129) (by decide +kernel), List.mem_of_getElem? (i := 1130) (by decide +kernel)⟩
theorem lw_p68 : lw_okq (⟨"ThirdAlikeModel", "leadsHere", "(II)Z"⟩, 52) := ⟨⟨by decide +kernel, by decide +kernel⟩, List.mem_of_getElem? (i := 689) (by decide +kernel), List.mem_of_getElem? (i := 1137) (by decide +kernel), List.mem_of_getElem? (i := 1138) (by decide +kernel)⟩
theorem lw_p69 : lw_okq (⟨"ThirdAlikeModel", "ones", "(I)I"⟩, 52) := ⟨⟨by decide +kernel, by decide +kernel⟩, List.mem_of_getElem? (i := 689) (by decide +kernel), List.mem_of_getElem? (i := 1146) (by decide +kernel), List.mem_of_getElem? (i := 1147) (by decide +kernel)⟩
theorem lw_p70 : lw_okq (⟨"ThirdAlikeModel", "goodOnes", "()I"⟩, 52) := ⟨⟨by decide +kernel, by decide +kernel⟩, List.mem_of_getElem? (i := 689) (by decide +kernel), List.mem_of_getElem? (i := 1150) (by decide +kernel), List.mem_of_getElem? (i := 1151) (by decide +kernel)⟩
theorem lw_p71 : lw_okq (⟨"ThirdAlikeModel", "lowest", "(III)J"⟩, 52) := ⟨⟨by decide +kernel, by decide +kernel⟩, List.mem_of_getElem? (i := 689) (by decide +kernel), List.mem_of_getElem? (i := 1154) (by decide +kernel), List.mem_of_getElem? (i := 1155) (by decide +kernel)⟩
theorem lw_p72 : lw_okq (⟨"ThirdAlikeModel", "divisor", "(II)I"⟩, 52) := ⟨⟨by decide +kernel, by decide +kernel⟩, List.mem_of_getElem? (i := 689) (by decide +kernel), List.mem_of_getElem? (i := 1158) (by decide +kernel), List.mem_of_getElem? (i := 1159) (by decide +kernel)⟩
theorem lw_p73 : lw_okq (⟨"ThirdAlikeModel", "goodTwos", "()I"⟩, 52) := ⟨⟨by decide +kernel, by decide +kernel⟩, List.mem_of_getElem? (i := 689) (by decide +kernel), List.mem_of_getElem? (i := 1162) (by decide +kernel), List.mem_of_getElem? (i := 1163) (by decide +kernel)⟩
theorem lw_p74 : lw_okq (⟨"ThirdAlikeModel", "isTape", "(I)Z"⟩, 52) := ⟨⟨by decide +kernel, by decide +kernel⟩, List.mem_of_getElem? (i := 689) (by decide +kernel), List.mem_of_getElem? (i := 1182) (by decide +kernel), List.mem_of_getElem? (i := 1183) (by decide +kernel)⟩
theorem lw_p75 : lw_okq (⟨"ThirdAlikeModel", "looksAct", "(II)I"⟩, 52) := ⟨⟨by decide +kernel, by decide +kernel⟩, List.mem_of_getElem? (i := 689) (by decide +kernel), List.mem_of_getElem? (i := 1198) (by decide +kernel), List.mem_of_getElem? (i := 1199) (by decide +kernel)⟩
theorem lw_p76 : lw_okq (⟨"ThirdAlikeModel", "body", "(I)V"⟩, 52) := ⟨⟨by decide +kernel, by decide +kernel⟩, List.mem_of_getElem? (i := 689) (by decide +kernel), List.mem_of_getElem? (i := 1202) (by decide +kernel), List.mem_of_getElem? (i := 1203) (by decide +kernel)⟩
theorem lw_p77 : lw_okq (⟨"ThirdAlikeModel", "moverLooks", "(II)I"⟩, 52) := ⟨⟨by decide +kernel, by decide +kernel⟩, List.mem_of_getElem? (i := 689) (by decide +kernel), List.mem_of_getElem? (i := 1206) (by decide +kernel), List.mem_of_getElem? (i := 1207) (by decide +kernel)⟩
theorem lw_p78 : lw_okq (⟨"ThirdAlikeModel", "goesAct", "(II)I"⟩, 52) := ⟨⟨by decide +kernel, by decide +kernel⟩, List.mem_of_getElem? (i := 689) (by decide +kernel), List.mem_of_getElem? (i := 1210) (by decide +kernel), List.mem_of_getElem? (i := 1211) (by decide +kernel)⟩
theorem lw_p79 : lw_okq (⟨"ThirdAlikeModel", "nearGoes", "(II)I"⟩, 52) := ⟨⟨by decide +kernel, by decide +kernel⟩, List.mem_of_getElem? (i := 689) (by decide +kernel), List.mem_of_getElem? (i := 1214) (by decide +kernel), List.mem_of_getElem? (i := 1215) (by decide +kernel)⟩
def lw_privs_5 : List (MethodName × Nat) := [(⟨"ThirdAlikeModel", "areAll", "()Z"⟩, 52), (⟨"ThirdAlikeModel", "takeWay", "()V"⟩, 52), (⟨"ThirdAlikeModel", "nextWay", "()Z"⟩, 52), (⟨"ThirdAlikeModel", "isHeldBy", "(II)Z"⟩, 52), (⟨"ThirdAlikeModel", "leadsHere", "(II)Z"⟩, 52), (⟨"ThirdAlikeModel", "ones", "(I)I"⟩, 52), (⟨"ThirdAlikeModel", "goodOnes", "()I"⟩, 52), (⟨"ThirdAlikeModel", "lowest", "(III)J"⟩, 52), (⟨"ThirdAlikeModel", "divisor", "(II)I"⟩, 52), (⟨"ThirdAlikeModel", "goodTwos", "()I"⟩, 52), (⟨"ThirdAlikeModel", "isTape", "(I)Z"⟩, 52), (⟨"ThirdAlikeModel", "looksAct", "(II)I"⟩, 52), (⟨"ThirdAlikeModel", "body", "(I)V"⟩, 52), (⟨"ThirdAlikeModel", "moverLooks", "(II)I"⟩, 52), (⟨"ThirdAlikeModel", "goesAct", "(II)I"⟩, 52), (⟨"ThirdAlikeModel", "nearGoes", "(II)I"⟩, 52)]
theorem lw_r5 : ∀ q ∈ lw_privs_5, lw_okq q := List.forall_mem_cons.mpr ⟨lw_p64, List.forall_mem_cons.mpr ⟨lw_p65, List.forall_mem_cons.mpr ⟨lw_p66, List.forall_mem_cons.mpr ⟨lw_p67, List.forall_mem_cons.mpr ⟨lw_p68, List.forall_mem_cons.mpr ⟨lw_p69, List.forall_mem_cons.mpr ⟨lw_p70, List.forall_mem_cons.mpr ⟨lw_p71, List.forall_mem_cons.mpr ⟨lw_p72, List.forall_mem_cons.mpr ⟨lw_p73, List.forall_mem_cons.mpr ⟨lw_p74, List.forall_mem_cons.mpr ⟨lw_p75, List.forall_mem_cons.mpr ⟨lw_p76, List.forall_mem_cons.mpr ⟨lw_p77, List.forall_mem_cons.mpr ⟨lw_p78, List.forall_mem_cons.mpr ⟨lw_p79, fun _ h => absurd h List.not_mem_nil⟩⟩⟩⟩⟩⟩⟩⟩⟩⟩⟩⟩⟩⟩⟩⟩
theorem lw_p80 : lw_okq (⟨"ThirdAlikeModel", "moverGoes", "(II)I"⟩, 52) := ⟨⟨by decide +kernel, by decide +kernel⟩, List.mem_of_getElem? (i := 689) (by decide +kernel), List.mem_of_getElem? (i := 1218) (by decide +kernel), List.mem_of_getElem? (i := 1219) (by decide +kernel)⟩
theorem lw_p81 : lw_okq (⟨"ThirdAlikeModel", "tellsAct", "(II)I"⟩, 52) := ⟨⟨by decide +kernel, by decide +kernel⟩, List.mem_of_getElem? (i := 689) (by decide +kernel), List.mem_of_getElem? (i := 1222) (by decide +kernel), List.mem_of_getElem? (i := 1223) (by decide +kernel)⟩
theorem lw_p82 : lw_okq (⟨"ThirdAlikeModel", "moverTells", "(II)I"⟩, 52) := ⟨⟨by decide +kernel, by decide +kernel⟩, List.mem_of_getElem? (i := 689) (by decide +kernel), List.mem_of_getElem? (i := 1226) (by decide +kernel), List.mem_of_getElem? (i := 1227) (by decide +kernel)⟩
theorem lw_p83 : lw_okq (⟨"ThirdAlikeModel", "narrow", "(IJ)J"⟩, 52) := ⟨⟨by decide +kernel, by decide +kernel⟩, List.mem_of_getElem? (i := 689) (by decide +kernel), List.mem_of_getElem? (i := 1250) (by decide +kernel), List.mem_of_getElem? (i := 1251) (by decide +kernel)⟩
def lw_privs_6 : List (MethodName × Nat) := [(⟨"ThirdAlikeModel", "moverGoes", "(II)I"⟩, 52), (⟨"ThirdAlikeModel", "tellsAct", "(II)I"⟩, 52), (⟨"ThirdAlikeModel", "moverTells", "(II)I"⟩, 52), (⟨"ThirdAlikeModel", "narrow", "(IJ)J"⟩, 52)]
theorem lw_r6 : ∀ q ∈ lw_privs_6, lw_okq q := List.forall_mem_cons.mpr ⟨lw_p80, List.forall_mem_cons.mpr ⟨lw_p81, List.forall_mem_cons.mpr ⟨lw_p82, List.forall_mem_cons.mpr ⟨lw_p83, fun _ h => absurd h List.not_mem_nil⟩⟩⟩⟩
def lw_privs : List (MethodName × Nat) := lw_privs_1 ++ (lw_privs_2 ++ (lw_privs_3 ++ (lw_privs_4 ++ (lw_privs_5 ++ (lw_privs_6)))))
def lw_tbl : List Cond := k2_sels lw_privs ++ tables_1
theorem lw_privs_ok : ∀ q ∈ lw_privs, lw_okq q := by
  show ∀ q ∈ lw_privs_1 ++ (lw_privs_2 ++ (lw_privs_3 ++ (lw_privs_4 ++ (lw_privs_5 ++ (lw_privs_6))))), lw_okq q
  exact List.forall_mem_append.mpr ⟨lw_r1, List.forall_mem_append.mpr ⟨lw_r2, List.forall_mem_append.mpr ⟨lw_r3, List.forall_mem_append.mpr ⟨lw_r4, List.forall_mem_append.mpr ⟨lw_r5, lw_r6⟩⟩⟩⟩⟩
-- ===== end of PART A; then your names; then what follows =====
end
section
def RX0 : String := "ThirdAlike$Actor"
def TX0 : u_T := fun k => match k with
  | 0 => ("ThirdAlike$Actor", "kind", "I", false)
  | 1 => ("ThirdAlike$Actor", "v", "I", false)
  | 2 => ("ThirdAlike$Actor", "who", "I", false)
  | 3 => ("ThirdAlike$Actor", "ran", "I", false)
  | _ => ("ThirdAlike$Actor", "bodies", "[I", true)
def tyX0 : Nat → FieldType := fun k => match k with
  | 0 => .int
  | 1 => .int
  | 2 => .int
  | 3 => .int
  | _ => .array .int
theorem nmX0 : ∀ a, a < 5 → ∀ b, b < 5 → a ≠ b → (TX0 a).2.1 ≠ (TX0 b).2.1 := by decide +kernel
theorem tyX0_ok : ∀ k, k < 5 → parseFieldDescriptor (TX0 k).2.2.1 = some (tyX0 k) := by decide +kernel
abbrev cX0_init : ByteArray := prog_2_method_1_code
def yX0_init : MethodName := ⟨RX0, "<init>", "()V"⟩
abbrev cX0_begin : ByteArray := prog_2_method_2_code
def yX0_begin : MethodName := ⟨RX0, "begin", "(I)V"⟩
abbrev cX0_looks : ByteArray := prog_2_method_3_code
def yX0_looks : MethodName := ⟨RX0, "looks", "(LThirdAlike$Actor;II)I"⟩
abbrev cX0_goes : ByteArray := prog_2_method_4_code
def yX0_goes : MethodName := ⟨RX0, "goes", "(LThirdAlike$Actor;II)I"⟩
abbrev cX0_tells : ByteArray := prog_2_method_5_code
def yX0_tells : MethodName := ⟨RX0, "tells", "(LThirdAlike$Actor;II)I"⟩
def RX1 : String := "ThirdAlike$Life"
def TX1 : u_T := fun k => match k with
  | 0 => ("ThirdAlike$Life", "all", "LThirdAlike$State;", true)
  | 1 => ("ThirdAlike$Life", "wishForAll", "I", false)
  | 2 => ("ThirdAlike$Life", "facts", "[I", true)
  | 3 => ("ThirdAlike$Life", "others", "I", false)
  | 4 => ("ThirdAlike$Life", "alike", "I", false)
  | 5 => ("ThirdAlike$Life", "weights", "I", false)
  | 6 => ("ThirdAlike$Life", "known", "[I", true)
  | 7 => ("ThirdAlike$Life", "knownSince", "[I", true)
  | _ => ("ThirdAlike$Life", "since", "I", false)
def tyX1 : Nat → FieldType := fun k => match k with
  | 0 => .object "ThirdAlike$State"
  | 1 => .int
  | 2 => .array .int
  | 3 => .int
  | 4 => .int
  | 5 => .int
  | 6 => .array .int
  | 7 => .array .int
  | _ => .int
theorem nmX1 : ∀ a, a < 9 → ∀ b, b < 9 → a ≠ b → (TX1 a).2.1 ≠ (TX1 b).2.1 := by decide +kernel
theorem tyX1_ok : ∀ k, k < 9 → parseFieldDescriptor (TX1 k).2.2.1 = some (tyX1 k) := by decide +kernel
abbrev cX1_init : ByteArray := prog_3_method_1_code
def yX1_init : MethodName := ⟨RX1, "<init>", "(LThirdAlike$Street;)V"⟩
abbrev cX1_startFrom : ByteArray := prog_3_method_2_code
def yX1_startFrom : MethodName := ⟨RX1, "startFrom", "(LThirdAlike$State;)V"⟩
abbrev cX1_weigh : ByteArray := prog_3_method_3_code
def yX1_weigh : MethodName := ⟨RX1, "weigh", "(II)V"⟩
abbrev cX1_weightOf : ByteArray := prog_3_method_4_code
def yX1_weightOf : MethodName := ⟨RX1, "weightOf", "(II)I"⟩
abbrev cX1_suits : ByteArray := prog_3_method_5_code
def yX1_suits : MethodName := ⟨RX1, "suits", "(II)Z"⟩
abbrev cX1_allSuit : ByteArray := prog_3_method_6_code
def yX1_allSuit : MethodName := ⟨RX1, "allSuit", "()Z"⟩
abbrev cX1_happy : ByteArray := prog_3_method_7_code
def yX1_happy : MethodName := ⟨RX1, "happy", "()I"⟩
abbrev cX1_goesTo : ByteArray := prog_3_method_8_code
def yX1_goesTo : MethodName := ⟨RX1, "goesTo", "(I)I"⟩
abbrev cX1_least : ByteArray := prog_3_method_9_code
def yX1_least : MethodName := ⟨RX1, "least", "(I)I"⟩
abbrev cX1_nearest : ByteArray := prog_3_method_10_code
def yX1_nearest : MethodName := ⟨RX1, "nearest", "(II)I"⟩
abbrev cX1_nextBehind : ByteArray := prog_3_method_11_code
def yX1_nextBehind : MethodName := ⟨RX1, "nextBehind", "(I)I"⟩
abbrev cX1_partnerOf : ByteArray := prog_3_method_12_code
def yX1_partnerOf : MethodName := ⟨RX1, "partnerOf", "(I)I"⟩
abbrev cX1_changeHouses : ByteArray := prog_3_method_13_code
def yX1_changeHouses : MethodName := ⟨RX1, "changeHouses", "(II)V"⟩
abbrev cX1_step : ByteArray := prog_3_method_14_code
def yX1_step : MethodName := ⟨RX1, "step", "()I"⟩
abbrev cX1_contentBehind : ByteArray := prog_3_method_15_code
def yX1_contentBehind : MethodName := ⟨RX1, "contentBehind", "(LThirdAlike$Life;I)I"⟩
def RX2 : String := "ThirdAlike$State"
def TX2 : u_T := fun k => match k with
  | 0 => ("ThirdAlike$State", "houses", "I", false)
  | 1 => ("ThirdAlike$State", "shape", "I", false)
  | 2 => ("ThirdAlike$State", "around", "[I", true)
  | 3 => ("ThirdAlike$State", "people", "I", false)
  | 4 => ("ThirdAlike$State", "kind", "[I", true)
  | 5 => ("ThirdAlike$State", "v", "[I", true)
  | 6 => ("ThirdAlike$State", "sort", "[I", true)
  | 7 => ("ThirdAlike$State", "house", "[I", true)
  | 8 => ("ThirdAlike$State", "moves", "I", false)
  | 9 => ("ThirdAlike$State", "booked", "[I", true)
  | 10 => ("ThirdAlike$State", "bookedCount", "I", false)
  | _ => ("ThirdAlike$State", "holding", "LThirdAlike$Street;", false)
def tyX2 : Nat → FieldType := fun k => match k with
  | 0 => .int
  | 1 => .int
  | 2 => .array .int
  | 3 => .int
  | 4 => .array .int
  | 5 => .array .int
  | 6 => .array .int
  | 7 => .array .int
  | 8 => .int
  | 9 => .array .int
  | 10 => .int
  | _ => .object "ThirdAlike$Street"
theorem nmX2 : ∀ a, a < 12 → ∀ b, b < 12 → a ≠ b → (TX2 a).2.1 ≠ (TX2 b).2.1 := by decide +kernel
theorem tyX2_ok : ∀ k, k < 12 → parseFieldDescriptor (TX2 k).2.2.1 = some (tyX2 k) := by decide +kernel
abbrev cX2_init : ByteArray := prog_4_method_1_code
def yX2_init : MethodName := ⟨RX2, "<init>", "(LThirdAlike$Street;)V"⟩
abbrev cX2_layOut : ByteArray := prog_4_method_2_code
def yX2_layOut : MethodName := ⟨RX2, "layOut", "(II)V"⟩
abbrev cX2_areNeighbours : ByteArray := prog_4_method_3_code
def yX2_areNeighbours : MethodName := ⟨RX2, "areNeighbours", "(II)Z"⟩
abbrev cX2_settle : ByteArray := prog_4_method_4_code
def yX2_settle : MethodName := ⟨RX2, "settle", "(IIII)I"⟩
abbrev cX2_whoIn : ByteArray := prog_4_method_5_code
def yX2_whoIn : MethodName := ⟨RX2, "whoIn", "(I)I"⟩
abbrev cX2_freeHouses : ByteArray := prog_4_method_6_code
def yX2_freeHouses : MethodName := ⟨RX2, "freeHouses", "()I"⟩
abbrev cX2_livesBeside : ByteArray := prog_4_method_7_code
def yX2_livesBeside : MethodName := ⟨RX2, "livesBeside", "(II)Z"⟩
abbrev cX2_likePairs : ByteArray := prog_4_method_8_code
def yX2_likePairs : MethodName := ⟨RX2, "likePairs", "()I"⟩
abbrev cX2_likePairsBelow : ByteArray := prog_4_method_9_code
def yX2_likePairsBelow : MethodName := ⟨RX2, "likePairsBelow", "(I)I"⟩
abbrev cX2_allPairs : ByteArray := prog_4_method_10_code
def yX2_allPairs : MethodName := ⟨RX2, "allPairs", "()I"⟩
abbrev cX2_isLivedInAs : ByteArray := prog_4_method_11_code
def yX2_isLivedInAs : MethodName := ⟨RX2, "isLivedInAs", "(LThirdAlike$State;)Z"⟩
abbrev cX2_copyFrom : ByteArray := prog_4_method_12_code
def yX2_copyFrom : MethodName := ⟨RX2, "copyFrom", "(LThirdAlike$State;)V"⟩
def RX3 : String := "ThirdAlike$Street"
def TX3 : u_T := fun k => match k with
  | 0 => ("ThirdAlike$Street", "steps", "[I", true)
  | 1 => ("ThirdAlike$Street", "length", "I", false)
  | _ => ("ThirdAlike$Street", "hasWishes", "Z", false)
def tyX3 : Nat → FieldType := fun k => match k with
  | 0 => .array .int
  | 1 => .int
  | _ => .boolean
theorem nmX3 : ∀ a, a < 3 → ∀ b, b < 3 → a ≠ b → (TX3 a).2.1 ≠ (TX3 b).2.1 := by decide +kernel
theorem tyX3_ok : ∀ k, k < 3 → parseFieldDescriptor (TX3 k).2.2.1 = some (tyX3 k) := by decide +kernel
abbrev cX3_init : ByteArray := prog_5_method_1_code
def yX3_init : MethodName := ⟨RX3, "<init>", "()V"⟩
abbrev cX3_clear : ByteArray := prog_5_method_2_code
def yX3_clear : MethodName := ⟨RX3, "clear", "()V"⟩
abbrev cX3_add : ByteArray := prog_5_method_3_code
def yX3_add : MethodName := ⟨RX3, "add", "(II)V"⟩
abbrev cX3_weigh : ByteArray := prog_5_method_4_code
def yX3_weigh : MethodName := ⟨RX3, "weigh", "([I[II)V"⟩
def RX4 : String := "ThirdAlike$Tape"
def TX4 : u_T := fun k => match k with
  | 0 => ("ThirdAlike$Tape", "sort", "I", false)
  | 1 => ("ThirdAlike$Tape", "length", "I", false)
  | _ => ("ThirdAlike$Tape", "items", "[J", true)
def tyX4 : Nat → FieldType := fun k => match k with
  | 0 => .int
  | 1 => .int
  | _ => .array .long
theorem nmX4 : ∀ a, a < 3 → ∀ b, b < 3 → a ≠ b → (TX4 a).2.1 ≠ (TX4 b).2.1 := by decide +kernel
theorem tyX4_ok : ∀ k, k < 3 → parseFieldDescriptor (TX4 k).2.2.1 = some (tyX4 k) := by decide +kernel
abbrev cX4_init : ByteArray := prog_6_method_1_code
def yX4_init : MethodName := ⟨RX4, "<init>", "()V"⟩
abbrev cX4_isThere : ByteArray := prog_6_method_2_code
def yX4_isThere : MethodName := ⟨RX4, "isThere", "()Z"⟩
abbrev cX4_become : ByteArray := prog_6_method_3_code
def yX4_become : MethodName := ⟨RX4, "become", "(II)V"⟩
abbrev cX4_has : ByteArray := prog_6_method_4_code
def yX4_has : MethodName := ⟨RX4, "has", "(II)Z"⟩
abbrev cX4_cut : ByteArray := prog_6_method_5_code
def yX4_cut : MethodName := ⟨RX4, "cut", "(J)J"⟩
def RX5 : String := "ThirdAlike$Text"
def TX5 : u_T := fun k => match k with
  | 0 => ("ThirdAlike$Text", "length", "I", false)
  | 1 => ("ThirdAlike$Text", "signs", "[B", true)
  | 2 => ("ThirdAlike$Text", "target", "LThirdAlike$Street;", false)
  | 3 => ("ThirdAlike$Text", "at", "I", false)
  | 4 => ("ThirdAlike$Text", "sign", "I", false)
  | _ => ("ThirdAlike$Text", "faulty", "Z", false)
def tyX5 : Nat → FieldType := fun k => match k with
  | 0 => .int
  | 1 => .array .byte
  | 2 => .object "ThirdAlike$Street"
  | 3 => .int
  | 4 => .int
  | _ => .boolean
theorem nmX5 : ∀ a, a < 6 → ∀ b, b < 6 → a ≠ b → (TX5 a).2.1 ≠ (TX5 b).2.1 := by decide +kernel
theorem tyX5_ok : ∀ k, k < 6 → parseFieldDescriptor (TX5 k).2.2.1 = some (tyX5 k) := by decide +kernel
abbrev cX5_init : ByteArray := prog_7_method_1_code
def yX5_init : MethodName := ⟨RX5, "<init>", "()V"⟩
abbrev cX5_append : ByteArray := prog_7_method_2_code
def yX5_append : MethodName := ⟨RX5, "append", "(I)Z"⟩
abbrev cX5_parseInto : ByteArray := prog_7_method_3_code
def yX5_parseInto : MethodName := ⟨RX5, "parseInto", "(LThirdAlike$Street;)I"⟩
abbrev cX5_lookAt : ByteArray := prog_7_method_4_code
def yX5_lookAt : MethodName := ⟨RX5, "lookAt", "(I)V"⟩
abbrev cX5_expect : ByteArray := prog_7_method_5_code
def yX5_expect : MethodName := ⟨RX5, "expect", "(I)V"⟩
abbrev cX5_readClause : ByteArray := prog_7_method_6_code
def yX5_readClause : MethodName := ⟨RX5, "readClause", "()V"⟩
abbrev cX5_readNumber : ByteArray := prog_7_method_7_code
def yX5_readNumber : MethodName := ⟨RX5, "readNumber", "()I"⟩
abbrev cX5_readEither : ByteArray := prog_7_method_8_code
def yX5_readEither : MethodName := ⟨RX5, "readEither", "(LThirdAlike$Text;I)V"⟩
abbrev cX5_readBoth : ByteArray := prog_7_method_9_code
def yX5_readBoth : MethodName := ⟨RX5, "readBoth", "(LThirdAlike$Text;I)V"⟩
abbrev cX5_readPart : ByteArray := prog_7_method_10_code
def yX5_readPart : MethodName := ⟨RX5, "readPart", "(LThirdAlike$Text;I)V"⟩
abbrev cX5_readOneOf : ByteArray := prog_7_method_11_code
def yX5_readOneOf : MethodName := ⟨RX5, "readOneOf", "(Ljava/lang/String;)I"⟩
def RX6 : String := "ThirdAlike$Ways"
def TX6 : u_T := fun k => match k with
  | 0 => ("ThirdAlike$Ways", "found", "[I", true)
  | 1 => ("ThirdAlike$Ways", "start", "[I", true)
  | 2 => ("ThirdAlike$Ways", "byPairs", "Z", false)
  | _ => ("ThirdAlike$Ways", "fewest", "I", false)
def tyX6 : Nat → FieldType := fun k => match k with
  | 0 => .array .int
  | 1 => .array .int
  | 2 => .boolean
  | _ => .int
theorem nmX6 : ∀ a, a < 4 → ∀ b, b < 4 → a ≠ b → (TX6 a).2.1 ≠ (TX6 b).2.1 := by decide +kernel
theorem tyX6_ok : ∀ k, k < 4 → parseFieldDescriptor (TX6 k).2.2.1 = some (tyX6 k) := by decide +kernel
abbrev cX6_init : ByteArray := prog_8_method_1_code
def yX6_init : MethodName := ⟨RX6, "<init>", "()V"⟩
abbrev cX6_find : ByteArray := prog_8_method_2_code
def yX6_find : MethodName := ⟨RX6, "find", "(LThirdAlike$Life;Z)I"⟩
abbrev cX6_tryFrom : ByteArray := prog_8_method_3_code
def yX6_tryFrom : MethodName := ⟨RX6, "tryFrom", "(LThirdAlike$Ways;LThirdAlike$Life;III)V"⟩
def RX7 : String := "ThirdAlike"
def TX7 : u_T := fun k => match k with
  | 0 => ("ThirdAlike", "streets", "[LThirdAlike$Street;", true)
  | 1 => ("ThirdAlike", "tapes", "[LThirdAlike$Tape;", true)
  | 2 => ("ThirdAlike", "text", "LThirdAlike$Text;", true)
  | 3 => ("ThirdAlike", "actor", "LThirdAlike$Actor;", true)
  | 4 => ("ThirdAlike", "ways", "LThirdAlike$Ways;", true)
  | 5 => ("ThirdAlike", "now", "LThirdAlike$State;", true)
  | 6 => ("ThirdAlike", "kept", "LThirdAlike$State;", true)
  | 7 => ("ThirdAlike", "life", "LThirdAlike$Life;", true)
  | 8 => ("ThirdAlike", "made", "I", false)
  | _ => ("ThirdAlike", "isKept", "Z", false)
def tyX7 : Nat → FieldType := fun k => match k with
  | 0 => .array (.object "ThirdAlike$Street")
  | 1 => .array (.object "ThirdAlike$Tape")
  | 2 => .object "ThirdAlike$Text"
  | 3 => .object "ThirdAlike$Actor"
  | 4 => .object "ThirdAlike$Ways"
  | 5 => .object "ThirdAlike$State"
  | 6 => .object "ThirdAlike$State"
  | 7 => .object "ThirdAlike$Life"
  | 8 => .int
  | _ => .boolean
theorem nmX7 : ∀ a, a < 10 → ∀ b, b < 10 → a ≠ b → (TX7 a).2.1 ≠ (TX7 b).2.1 := by decide +kernel
theorem tyX7_ok : ∀ k, k < 10 → parseFieldDescriptor (TX7 k).2.2.1 = some (tyX7 k) := by decide +kernel
abbrev cX7_init : ByteArray := prog_1_method_1_code
def yX7_init : MethodName := ⟨RX7, "<init>", "()V"⟩
abbrev cX7_town : ByteArray := prog_1_method_2_code
def yX7_town : MethodName := ⟨RX7, "town", "(II)I"⟩
abbrev cX7_neighbours : ByteArray := prog_1_method_3_code
def yX7_neighbours : MethodName := ⟨RX7, "neighbours", "(I)I"⟩
abbrev cX7_person : ByteArray := prog_1_method_4_code
def yX7_person : MethodName := ⟨RX7, "person", "(IIII)I"⟩
abbrev cX7_of : ByteArray := prog_1_method_5_code
def yX7_of : MethodName := ⟨RX7, "of", "(II)I"⟩
abbrev cX7_put : ByteArray := prog_1_method_6_code
def yX7_put : MethodName := ⟨RX7, "put", "(II)I"⟩
abbrev cX7_feed : ByteArray := prog_1_method_7_code
def yX7_feed : MethodName := ⟨RX7, "feed", "(I)I"⟩
abbrev cX7_street : ByteArray := prog_1_method_8_code
def yX7_street : MethodName := ⟨RX7, "street", "()I"⟩
abbrev cX7_told : ByteArray := prog_1_method_9_code
def yX7_told : MethodName := ⟨RX7, "told", "(I)I"⟩
abbrev cX7_move : ByteArray := prog_1_method_10_code
def yX7_move : MethodName := ⟨RX7, "move", "()I"⟩
abbrev cX7_run : ByteArray := prog_1_method_11_code
def yX7_run : MethodName := ⟨RX7, "run", "(II)I"⟩
abbrev cX7_rest : ByteArray := prog_1_method_12_code
def yX7_rest : MethodName := ⟨RX7, "rest", "()I"⟩
abbrev cX7_again : ByteArray := prog_1_method_13_code
def yX7_again : MethodName := ⟨RX7, "again", "()I"⟩
abbrev cX7_mixed : ByteArray := prog_1_method_14_code
def yX7_mixed : MethodName := ⟨RX7, "mixed", "(I)I"⟩
abbrev cX7_few : ByteArray := prog_1_method_15_code
def yX7_few : MethodName := ⟨RX7, "few", "()I"⟩
abbrev cX7_edge : ByteArray := prog_1_method_16_code
def yX7_edge : MethodName := ⟨RX7, "edge", "()I"⟩
abbrev cX7_begins : ByteArray := prog_1_method_17_code
def yX7_begins : MethodName := ⟨RX7, "begins", "()I"⟩
abbrev cX7_holds : ByteArray := prog_1_method_18_code
def yX7_holds : MethodName := ⟨RX7, "holds", "()I"⟩
abbrev cX7_before : ByteArray := prog_1_method_19_code
def yX7_before : MethodName := ⟨RX7, "before", "(I)I"⟩
abbrev cX7_odds : ByteArray := prog_1_method_20_code
def yX7_odds : MethodName := ⟨RX7, "odds", "(II)J"⟩
abbrev cX7_quarter : ByteArray := prog_1_method_21_code
def yX7_quarter : MethodName := ⟨RX7, "quarter", "(III)J"⟩
abbrev cX7_book : ByteArray := prog_1_method_22_code
def yX7_book : MethodName := ⟨RX7, "book", "(I)I"⟩
abbrev cX7_looked : ByteArray := prog_1_method_23_code
def yX7_looked : MethodName := ⟨RX7, "looked", "()I"⟩
abbrev cX7_judge : ByteArray := prog_1_method_24_code
def yX7_judge : MethodName := ⟨RX7, "judge", "(II)I"⟩
abbrev cX7_image : ByteArray := prog_1_method_25_code
def yX7_image : MethodName := ⟨RX7, "image", "()I"⟩
abbrev cX7_undo : ByteArray := prog_1_method_26_code
def yX7_undo : MethodName := ⟨RX7, "undo", "()I"⟩
abbrev cX7_act : ByteArray := prog_1_method_27_code
def yX7_act : MethodName := ⟨RX7, "act", "(III)I"⟩
abbrev cX7_trace : ByteArray := prog_1_method_28_code
def yX7_trace : MethodName := ⟨RX7, "trace", "(I)I"⟩
abbrev cX7_taken : ByteArray := prog_1_method_29_code
def yX7_taken : MethodName := ⟨RX7, "taken", "(II)I"⟩
abbrev cX7_count : ByteArray := prog_1_method_30_code
def yX7_count : MethodName := ⟨RX7, "count", "(I)I"⟩
abbrev cX7_tape : ByteArray := prog_1_method_31_code
def yX7_tape : MethodName := ⟨RX7, "tape", "(III)I"⟩
abbrev cX7_item : ByteArray := prog_1_method_32_code
def yX7_item : MethodName := ⟨RX7, "item", "(IIJ)I"⟩
abbrev cX7_read : ByteArray := prog_1_method_33_code
def yX7_read : MethodName := ⟨RX7, "read", "(II)J"⟩
abbrev cX7_shift : ByteArray := prog_1_method_34_code
def yX7_shift : MethodName := ⟨RX7, "shift", "(IIIII)I"⟩
abbrev cX7_isHouse : ByteArray := prog_1_method_35_code
def yX7_isHouse : MethodName := ⟨RX7, "isHouse", "(I)Z"⟩
abbrev cX7_isPerson : ByteArray := prog_1_method_36_code
def yX7_isPerson : MethodName := ⟨RX7, "isPerson", "(I)Z"⟩
abbrev cX7_isTape : ByteArray := prog_1_method_37_code
def yX7_isTape : MethodName := ⟨RX7, "isTape", "(I)Z"⟩
abbrev cX7_partInLowestTerms : ByteArray := prog_1_method_38_code
def yX7_partInLowestTerms : MethodName := ⟨RX7, "partInLowestTerms", "(III)J"⟩
def RX8 : String := "ThirdAlikeModel"
def TX8 : u_T := fun k => match k with
  | 0 => ("ThirdAlikeModel", "size", "I", false)
  | 1 => ("ThirdAlikeModel", "shape", "I", false)
  | 2 => ("ThirdAlikeModel", "people", "I", false)
  | 3 => ("ThirdAlikeModel", "gone", "I", false)
  | 4 => ("ThirdAlikeModel", "kind", "[I", true)
  | 5 => ("ThirdAlikeModel", "v", "[I", true)
  | 6 => ("ThirdAlikeModel", "kin", "[I", true)
  | 7 => ("ThirdAlikeModel", "home", "[I", true)
  | 8 => ("ThirdAlikeModel", "streets", "I", false)
  | 9 => ("ThirdAlikeModel", "the", "I", false)
  | 10 => ("ThirdAlikeModel", "fed", "I", false)
  | 11 => ("ThirdAlikeModel", "at", "I", false)
  | 12 => ("ThirdAlikeModel", "digits", "I", false)
  | 13 => ("ThirdAlikeModel", "text", "[I", true)
  | 14 => ("ThirdAlikeModel", "clauses", "[I", true)
  | 15 => ("ThirdAlikeModel", "word", "[I", true)
  | 16 => ("ThirdAlikeModel", "number", "[I", true)
  | 17 => ("ThirdAlikeModel", "from", "[I", true)
  | 18 => ("ThirdAlikeModel", "to", "[I", true)
  | 19 => ("ThirdAlikeModel", "sign", "[I", true)
  | 20 => ("ThirdAlikeModel", "waits", "[I", true)
  | 21 => ("ThirdAlikeModel", "signs", "I", false)
  | 22 => ("ThirdAlikeModel", "waiting", "I", false)
  | 23 => ("ThirdAlikeModel", "open", "I", false)
  | 24 => ("ThirdAlikeModel", "letters", "[I", true)
  | 25 => ("ThirdAlikeModel", "pile", "[Z", true)
  | 26 => ("ThirdAlikeModel", "wished", "I", false)
  | 27 => ("ThirdAlikeModel", "kept", "[I", true)
  | 28 => ("ThirdAlikeModel", "keptGone", "I", false)
  | 29 => ("ThirdAlikeModel", "best", "[I", true)
  | 30 => ("ThirdAlikeModel", "fewest", "I", false)
  | 31 => ("ThirdAlikeModel", "least", "I", false)
  | 32 => ("ThirdAlikeModel", "books", "I", false)
  | 33 => ("ThirdAlikeModel", "told", "[I", true)
  | 34 => ("ThirdAlikeModel", "hasImage", "Z", false)
  | 35 => ("ThirdAlikeModel", "imageThe", "I", false)
  | 36 => ("ThirdAlikeModel", "imageSize", "I", false)
  | 37 => ("ThirdAlikeModel", "imageShape", "I", false)
  | 38 => ("ThirdAlikeModel", "imagePeople", "I", false)
  | 39 => ("ThirdAlikeModel", "imageGone", "I", false)
  | 40 => ("ThirdAlikeModel", "imageBooks", "I", false)
  | 41 => ("ThirdAlikeModel", "imageKind", "[I", true)
  | 42 => ("ThirdAlikeModel", "imageV", "[I", true)
  | 43 => ("ThirdAlikeModel", "imageKin", "[I", true)
  | 44 => ("ThirdAlikeModel", "imageHome", "[I", true)
  | 45 => ("ThirdAlikeModel", "imageTold", "[I", true)
  | 46 => ("ThirdAlikeModel", "ran", "I", false)
  | 47 => ("ThirdAlikeModel", "bodies", "[I", true)
  | 48 => ("ThirdAlikeModel", "sort", "[I", true)
  | 49 => ("ThirdAlikeModel", "length", "[I", true)
  | 50 => ("ThirdAlikeModel", "item", "[J", true)
  | _ => ("ThirdAlikeModel", "aside", "[J", true)
def tyX8 : Nat → FieldType := fun k => match k with
  | 0 => .int
  | 1 => .int
  | 2 => .int
  | 3 => .int
  | 4 => .array .int
  | 5 => .array .int
  | 6 => .array .int
  | 7 => .array .int
  | 8 => .int
  | 9 => .int
  | 10 => .int
  | 11 => .int
  | 12 => .int
  | 13 => .array .int
  | 14 => .array .int
  | 15 => .array .int
  | 16 => .array .int
  | 17 => .array .int
  | 18 => .array .int
  | 19 => .array .int
  | 20 => .array .int
  | 21 => .int
  | 22 => .int
  | 23 => .int
  | 24 => .array .int
  | 25 => .array .boolean
  | 26 => .int
  | 27 => .array .int
  | 28 => .int
  | 29 => .array .int
  | 30 => .int
  | 31 => .int
  | 32 => .int
  | 33 => .array .int
  | 34 => .boolean
  | 35 => .int
  | 36 => .int
  | 37 => .int
  | 38 => .int
  | 39 => .int
  | 40 => .int
  | 41 => .array .int
  | 42 => .array .int
  | 43 => .array .int
  | 44 => .array .int
  | 45 => .array .int
  | 46 => .int
  | 47 => .array .int
  | 48 => .array .int
  | 49 => .array .int
  | 50 => .array .long
  | _ => .array .long
theorem nmX8 : ∀ a, a < 52 → ∀ b, b < 52 → a ≠ b → (TX8 a).2.1 ≠ (TX8 b).2.1 := by decide +kernel
theorem tyX8_ok : ∀ k, k < 52 → parseFieldDescriptor (TX8 k).2.2.1 = some (tyX8 k) := by decide +kernel
abbrev cX8_init : ByteArray := prog_10_method_1_code
def yX8_init : MethodName := ⟨RX8, "<init>", "()V"⟩
abbrev cX8_in : ByteArray := prog_10_method_2_code
def yX8_in : MethodName := ⟨RX8, "in", "(III)Z"⟩
abbrev cX8_has : ByteArray := prog_10_method_3_code
def yX8_has : MethodName := ⟨RX8, "has", "(II)Z"⟩
abbrev cX8_ones : ByteArray := prog_10_method_4_code
def yX8_ones : MethodName := ⟨RX8, "ones", "(I)I"⟩
abbrev cX8_isPerson : ByteArray := prog_10_method_5_code
def yX8_isPerson : MethodName := ⟨RX8, "isPerson", "(I)Z"⟩
abbrev cX8_isHouse : ByteArray := prog_10_method_6_code
def yX8_isHouse : MethodName := ⟨RX8, "isHouse", "(I)Z"⟩
abbrev cX8_areNext : ByteArray := prog_10_method_7_code
def yX8_areNext : MethodName := ⟨RX8, "areNext", "(II)Z"⟩
abbrev cX8_neighbours : ByteArray := prog_10_method_8_code
def yX8_neighbours : MethodName := ⟨RX8, "neighbours", "(I)I"⟩
abbrev cX8_whoIn : ByteArray := prog_10_method_9_code
def yX8_whoIn : MethodName := ⟨RX8, "whoIn", "(I)I"⟩
abbrev cX8_town : ByteArray := prog_10_method_10_code
def yX8_town : MethodName := ⟨RX8, "town", "(II)I"⟩
abbrev cX8_person : ByteArray := prog_10_method_11_code
def yX8_person : MethodName := ⟨RX8, "person", "(IIII)I"⟩
abbrev cX8_put : ByteArray := prog_10_method_12_code
def yX8_put : MethodName := ⟨RX8, "put", "(II)I"⟩
abbrev cX8_feed : ByteArray := prog_10_method_13_code
def yX8_feed : MethodName := ⟨RX8, "feed", "(I)I"⟩
abbrev cX8_next : ByteArray := prog_10_method_14_code
def yX8_next : MethodName := ⟨RX8, "next", "()I"⟩
abbrev cX8_takes : ByteArray := prog_10_method_15_code
def yX8_takes : MethodName := ⟨RX8, "takes", "(I)Z"⟩
abbrev cX8_takesWord : ByteArray := prog_10_method_16_code
def yX8_takesWord : MethodName := ⟨RX8, "takesWord", "(II)Z"⟩
abbrev cX8_isDigit : ByteArray := prog_10_method_17_code
def yX8_isDigit : MethodName := ⟨RX8, "isDigit", "()Z"⟩
abbrev cX8_takesNumber : ByteArray := prog_10_method_18_code
def yX8_takesNumber : MethodName := ⟨RX8, "takesNumber", "()Z"⟩
abbrev cX8_emits : ByteArray := prog_10_method_19_code
def yX8_emits : MethodName := ⟨RX8, "emits", "(I)V"⟩
abbrev cX8_whole : ByteArray := prog_10_method_20_code
def yX8_whole : MethodName := ⟨RX8, "whole", "()V"⟩
abbrev cX8_settle : ByteArray := prog_10_method_21_code
def yX8_settle : MethodName := ⟨RX8, "settle", "(I)V"⟩
abbrev cX8_place : ByteArray := prog_10_method_22_code
def yX8_place : MethodName := ⟨RX8, "place", "(I)I"⟩
abbrev cX8_takesTest : ByteArray := prog_10_method_23_code
def yX8_takesTest : MethodName := ⟨RX8, "takesTest", "()Z"⟩
abbrev cX8_takesE : ByteArray := prog_10_method_24_code
def yX8_takesE : MethodName := ⟨RX8, "takesE", "(I)Z"⟩
abbrev cX8_takesHead : ByteArray := prog_10_method_25_code
def yX8_takesHead : MethodName := ⟨RX8, "takesHead", "(I)Z"⟩
abbrev cX8_takesClause : ByteArray := prog_10_method_26_code
def yX8_takesClause : MethodName := ⟨RX8, "takesClause", "(I)Z"⟩
abbrev cX8_goesText : ByteArray := prog_10_method_27_code
def yX8_goesText : MethodName := ⟨RX8, "goesText", "(I)Z"⟩
abbrev cX8_street : ByteArray := prog_10_method_28_code
def yX8_street : MethodName := ⟨RX8, "street", "()I"⟩
abbrev cX8_firstClause : ByteArray := prog_10_method_29_code
def yX8_firstClause : MethodName := ⟨RX8, "firstClause", "()I"⟩
abbrev cX8_behind : ByteArray := prog_10_method_30_code
def yX8_behind : MethodName := ⟨RX8, "behind", "()I"⟩
abbrev cX8_factOf : ByteArray := prog_10_method_31_code
def yX8_factOf : MethodName := ⟨RX8, "factOf", "(IIII)I"⟩
abbrev cX8_isSo : ByteArray := prog_10_method_32_code
def yX8_isSo : MethodName := ⟨RX8, "isSo", "(IIII)Z"⟩
abbrev cX8_sumOf : ByteArray := prog_10_method_33_code
def yX8_sumOf : MethodName := ⟨RX8, "sumOf", "(IIII)I"⟩
abbrev cX8_wishOf : ByteArray := prog_10_method_34_code
def yX8_wishOf : MethodName := ⟨RX8, "wishOf", "(III)I"⟩
abbrev cX8_mostOf : ByteArray := prog_10_method_35_code
def yX8_mostOf : MethodName := ⟨RX8, "mostOf", "(III)I"⟩
abbrev cX8_beside : ByteArray := prog_10_method_36_code
def yX8_beside : MethodName := ⟨RX8, "beside", "(IIZ)I"⟩
abbrev cX8_isContentIn : ByteArray := prog_10_method_37_code
def yX8_isContentIn : MethodName := ⟨RX8, "isContentIn", "(II)Z"⟩
abbrev cX8_isContent : ByteArray := prog_10_method_38_code
def yX8_isContent : MethodName := ⟨RX8, "isContent", "(I)Z"⟩
abbrev cX8_areAll : ByteArray := prog_10_method_39_code
def yX8_areAll : MethodName := ⟨RX8, "areAll", "()Z"⟩
abbrev cX8_happy : ByteArray := prog_10_method_40_code
def yX8_happy : MethodName := ⟨RX8, "happy", "()I"⟩
abbrev cX8_freeOnes : ByteArray := prog_10_method_41_code
def yX8_freeOnes : MethodName := ⟨RX8, "freeOnes", "()I"⟩
abbrev cX8_wanted : ByteArray := prog_10_method_42_code
def yX8_wanted : MethodName := ⟨RX8, "wanted", "(I)I"⟩
abbrev cX8_leastOf : ByteArray := prog_10_method_43_code
def yX8_leastOf : MethodName := ⟨RX8, "leastOf", "(I)I"⟩
abbrev cX8_nearest : ByteArray := prog_10_method_44_code
def yX8_nearest : MethodName := ⟨RX8, "nearest", "(II)I"⟩
abbrev cX8_behindOwn : ByteArray := prog_10_method_45_code
def yX8_behindOwn : MethodName := ⟨RX8, "behindOwn", "(II)I"⟩
abbrev cX8_changes : ByteArray := prog_10_method_46_code
def yX8_changes : MethodName := ⟨RX8, "changes", "(II)V"⟩
abbrev cX8_partner : ByteArray := prog_10_method_47_code
def yX8_partner : MethodName := ⟨RX8, "partner", "(I)I"⟩
abbrev cX8_cheap : ByteArray := prog_10_method_48_code
def yX8_cheap : MethodName := ⟨RX8, "cheap", "(II)I"⟩
abbrev cX8_swapsTo : ByteArray := prog_10_method_49_code
def yX8_swapsTo : MethodName := ⟨RX8, "swapsTo", "(I)I"⟩
abbrev cX8_goesTo : ByteArray := prog_10_method_50_code
def yX8_goesTo : MethodName := ⟨RX8, "goesTo", "(I)I"⟩
abbrev cX8_pairs : ByteArray := prog_10_method_51_code
def yX8_pairs : MethodName := ⟨RX8, "pairs", "(Z)I"⟩
abbrev cX8_of : ByteArray := prog_10_method_52_code
def yX8_of : MethodName := ⟨RX8, "of", "(II)I"⟩
abbrev cX8_told : ByteArray := prog_10_method_53_code
def yX8_told : MethodName := ⟨RX8, "told", "(I)I"⟩
abbrev cX8_goMove : ByteArray := prog_10_method_54_code
def yX8_goMove : MethodName := ⟨RX8, "goMove", "()I"⟩
abbrev cX8_move : ByteArray := prog_10_method_55_code
def yX8_move : MethodName := ⟨RX8, "move", "()I"⟩
abbrev cX8_keep : ByteArray := prog_10_method_56_code
def yX8_keep : MethodName := ⟨RX8, "keep", "()V"⟩
abbrev cX8_putBack : ByteArray := prog_10_method_57_code
def yX8_putBack : MethodName := ⟨RX8, "putBack", "()V"⟩
abbrev cX8_areKept : ByteArray := prog_10_method_58_code
def yX8_areKept : MethodName := ⟨RX8, "areKept", "()Z"⟩
abbrev cX8_goMoves : ByteArray := prog_10_method_59_code
def yX8_goMoves : MethodName := ⟨RX8, "goMoves", "(I)I"⟩
abbrev cX8_run : ByteArray := prog_10_method_60_code
def yX8_run : MethodName := ⟨RX8, "run", "(II)I"⟩
abbrev cX8_rest : ByteArray := prog_10_method_61_code
def yX8_rest : MethodName := ⟨RX8, "rest", "()I"⟩
abbrev cX8_again : ByteArray := prog_10_method_62_code
def yX8_again : MethodName := ⟨RX8, "again", "()I"⟩
abbrev cX8_nextWay : ByteArray := prog_10_method_63_code
def yX8_nextWay : MethodName := ⟨RX8, "nextWay", "()Z"⟩
abbrev cX8_areUnlike : ByteArray := prog_10_method_64_code
def yX8_areUnlike : MethodName := ⟨RX8, "areUnlike", "()Z"⟩
abbrev cX8_takeWay : ByteArray := prog_10_method_65_code
def yX8_takeWay : MethodName := ⟨RX8, "takeWay", "()V"⟩
abbrev cX8_layWays : ByteArray := prog_10_method_66_code
def yX8_layWays : MethodName := ⟨RX8, "layWays", "()V"⟩
abbrev cX8_mixed : ByteArray := prog_10_method_67_code
def yX8_mixed : MethodName := ⟨RX8, "mixed", "(I)I"⟩
abbrev cX8_few : ByteArray := prog_10_method_68_code
def yX8_few : MethodName := ⟨RX8, "few", "()I"⟩
abbrev cX8_edge : ByteArray := prog_10_method_69_code
def yX8_edge : MethodName := ⟨RX8, "edge", "()I"⟩
abbrev cX8_begins : ByteArray := prog_10_method_70_code
def yX8_begins : MethodName := ⟨RX8, "begins", "()I"⟩
abbrev cX8_isHeldBy : ByteArray := prog_10_method_71_code
def yX8_isHeldBy : MethodName := ⟨RX8, "isHeldBy", "(II)Z"⟩
abbrev cX8_holds : ByteArray := prog_10_method_72_code
def yX8_holds : MethodName := ⟨RX8, "holds", "()I"⟩
abbrev cX8_leadsHere : ByteArray := prog_10_method_73_code
def yX8_leadsHere : MethodName := ⟨RX8, "leadsHere", "(II)Z"⟩
abbrev cX8_before : ByteArray := prog_10_method_74_code
def yX8_before : MethodName := ⟨RX8, "before", "(I)I"⟩
abbrev cX8_divisor : ByteArray := prog_10_method_75_code
def yX8_divisor : MethodName := ⟨RX8, "divisor", "(II)I"⟩
abbrev cX8_lowest : ByteArray := prog_10_method_76_code
def yX8_lowest : MethodName := ⟨RX8, "lowest", "(III)J"⟩
abbrev cX8_goodOnes : ByteArray := prog_10_method_77_code
def yX8_goodOnes : MethodName := ⟨RX8, "goodOnes", "()I"⟩
abbrev cX8_goodTwos : ByteArray := prog_10_method_78_code
def yX8_goodTwos : MethodName := ⟨RX8, "goodTwos", "()I"⟩
abbrev cX8_odds : ByteArray := prog_10_method_79_code
def yX8_odds : MethodName := ⟨RX8, "odds", "(II)J"⟩
abbrev cX8_quarter : ByteArray := prog_10_method_80_code
def yX8_quarter : MethodName := ⟨RX8, "quarter", "(III)J"⟩
abbrev cX8_book : ByteArray := prog_10_method_81_code
def yX8_book : MethodName := ⟨RX8, "book", "(I)I"⟩
abbrev cX8_looked : ByteArray := prog_10_method_82_code
def yX8_looked : MethodName := ⟨RX8, "looked", "()I"⟩
abbrev cX8_judge : ByteArray := prog_10_method_83_code
def yX8_judge : MethodName := ⟨RX8, "judge", "(II)I"⟩
abbrev cX8_image : ByteArray := prog_10_method_84_code
def yX8_image : MethodName := ⟨RX8, "image", "()I"⟩
abbrev cX8_undo : ByteArray := prog_10_method_85_code
def yX8_undo : MethodName := ⟨RX8, "undo", "()I"⟩
abbrev cX8_body : ByteArray := prog_10_method_86_code
def yX8_body : MethodName := ⟨RX8, "body", "(I)V"⟩
abbrev cX8_moverLooks : ByteArray := prog_10_method_87_code
def yX8_moverLooks : MethodName := ⟨RX8, "moverLooks", "(II)I"⟩
abbrev cX8_looksAct : ByteArray := prog_10_method_88_code
def yX8_looksAct : MethodName := ⟨RX8, "looksAct", "(II)I"⟩
abbrev cX8_moverGoes : ByteArray := prog_10_method_89_code
def yX8_moverGoes : MethodName := ⟨RX8, "moverGoes", "(II)I"⟩
abbrev cX8_nearGoes : ByteArray := prog_10_method_90_code
def yX8_nearGoes : MethodName := ⟨RX8, "nearGoes", "(II)I"⟩
abbrev cX8_goesAct : ByteArray := prog_10_method_91_code
def yX8_goesAct : MethodName := ⟨RX8, "goesAct", "(II)I"⟩
abbrev cX8_moverTells : ByteArray := prog_10_method_92_code
def yX8_moverTells : MethodName := ⟨RX8, "moverTells", "(II)I"⟩
abbrev cX8_tellsAct : ByteArray := prog_10_method_93_code
def yX8_tellsAct : MethodName := ⟨RX8, "tellsAct", "(II)I"⟩
abbrev cX8_act : ByteArray := prog_10_method_94_code
def yX8_act : MethodName := ⟨RX8, "act", "(III)I"⟩
abbrev cX8_trace : ByteArray := prog_10_method_95_code
def yX8_trace : MethodName := ⟨RX8, "trace", "(I)I"⟩
abbrev cX8_taken : ByteArray := prog_10_method_96_code
def yX8_taken : MethodName := ⟨RX8, "taken", "(II)I"⟩
abbrev cX8_count : ByteArray := prog_10_method_97_code
def yX8_count : MethodName := ⟨RX8, "count", "(I)I"⟩
abbrev cX8_isTape : ByteArray := prog_10_method_98_code
def yX8_isTape : MethodName := ⟨RX8, "isTape", "(I)Z"⟩
abbrev cX8_tape : ByteArray := prog_10_method_99_code
def yX8_tape : MethodName := ⟨RX8, "tape", "(III)I"⟩
abbrev cX8_narrow : ByteArray := prog_10_method_100_code
def yX8_narrow : MethodName := ⟨RX8, "narrow", "(IJ)J"⟩
abbrev cX8_item : ByteArray := prog_10_method_101_code
def yX8_item : MethodName := ⟨RX8, "item", "(IIJ)I"⟩
abbrev cX8_read : ByteArray := prog_10_method_102_code
def yX8_read : MethodName := ⟨RX8, "read", "(II)J"⟩
abbrev cX8_shift : ByteArray := prog_10_method_103_code
def yX8_shift : MethodName := ⟨RX8, "shift", "(IIIII)I"⟩
abbrev vwCl : List vw_C := [(RX0, TX0, 5), (RX1, TX1, 9), (RX2, TX2, 12), (RX3, TX3, 3), (RX4, TX4, 3), (RX5, TX5, 6), (RX6, TX6, 4), (RX7, TX7, 10), (RX8, TX8, 52)]
end
section
/-! MINI MACHINE: values as whole numbers, cells by family and number; V: the walk Y, seen from there -/
abbrev ZV : Type := Int ⊕ (Int ⊕ ((Nat × Nat) ⊕ Nat))
abbrev ZI (x : Int) : ZV := .inl x
abbrev ZJ (x : Int) : ZV := .inr (.inl x)
abbrev ZR (f i : Nat) : ZV := .inr (.inr (.inl (f, i)))
abbrev ZX (k : Nat) : ZV := .inr (.inr (.inr k))
abbrev ZG : Type := Nat → Nat → Nat → Int
def zup (g : ZG) (f i k : Nat) (v : Int) : ZG := fun a b c => if a = f ∧ b = i ∧ c = k then v else g a b c
/-- what a family is: kind (0 object, 1 ints, 2 bytes, 3 booleans, 4 longs, 5 streets, 6 tapes), how many -/
def zfam (f : Nat) : Nat × Nat := match f with
  | 0 => (0, 5) | 1 => (0, 9) | 2 => (0, 12) | 3 => (0, 3) | 4 => (0, 3) | 5 => (0, 6) | 6 => (0, 4) | 7 => (0, 10) | 8 => (0, 52)
  | 10 => (1, 20) | 11 => (1, 6) | 12 => (1, 864) | 13 => (1, 288) | 14 => (1, 8) | 15 => (1, 6) | 16 => (1, 6) | 17 => (1, 6) | 18 => (1, 6) | 19 => (1, 12)
  | 20 => (1, 100) | 21 => (4, 60) | 22 => (2, 100) | 23 => (1, 6) | 24 => (1, 6) | 25 => (5, 6) | 26 => (6, 6)
  | 30 => (1, 6) | 31 => (1, 6) | 32 => (1, 6) | 33 => (1, 6) | 34 => (1, 100) | 35 => (1, 6) | 36 => (1, 60) | 37 => (1, 60) | 38 => (1, 60) | 39 => (1, 60) | 40 => (1, 600) | 41 => (1, 101) | 42 => (1, 12) | 43 => (3, 100)
  | 44 => (1, 6) | 45 => (1, 6) | 46 => (1, 12) | 47 => (1, 6) | 48 => (1, 6) | 49 => (1, 6) | 50 => (1, 6) | 51 => (1, 12) | 52 => (1, 20) | 53 => (1, 6) | 54 => (1, 6) | 55 => (4, 360) | 56 => (4, 60)
  | _ => (9, 0)
/-- the fields of a class: (tag, a, b); tag 0 int, 1 boolean, 3 the cell (a, own number), 4 the cell (a, b), 5 a cell of family a, 6 that or null -/
def zfld (f : Nat) : List (Nat × Nat × Nat) := match f with
  | 0 => [(0, 0, 0), (0, 0, 0), (0, 0, 0), (0, 0, 0), (3, 10, 0)]
  | 1 => [(4, 2, 2), (0, 0, 0), (3, 11, 0), (0, 0, 0), (0, 0, 0), (0, 0, 0), (3, 12, 0), (3, 13, 0), (0, 0, 0)]
  | 2 => [(0, 0, 0), (0, 0, 0), (3, 14, 0), (0, 0, 0), (3, 15, 0), (3, 16, 0), (3, 17, 0), (3, 18, 0), (0, 0, 0), (3, 19, 0), (0, 0, 0), (5, 3, 0)]
  | 3 => [(3, 20, 0), (0, 0, 0), (1, 0, 0)]
  | 4 => [(0, 0, 0), (0, 0, 0), (3, 21, 0)]
  | 5 => [(0, 0, 0), (3, 22, 0), (6, 3, 0), (0, 0, 0), (0, 0, 0), (1, 0, 0)]
  | 6 => [(3, 23, 0), (3, 24, 0), (1, 0, 0), (0, 0, 0)]
  | 7 => [(3, 25, 0), (3, 26, 0), (4, 5, 0), (4, 0, 0), (4, 6, 0), (4, 2, 0), (4, 2, 1), (4, 1, 0), (0, 0, 0), (1, 0, 0)]
  | 8 => [(0, 0, 0), (0, 0, 0), (0, 0, 0), (0, 0, 0), (3, 30, 0), (3, 31, 0), (3, 32, 0), (3, 33, 0), (0, 0, 0), (0, 0, 0), (0, 0, 0), (0, 0, 0), (0, 0, 0), (3, 34, 0), (3, 35, 0), (3, 36, 0), (3, 37, 0), (3, 38, 0), (3, 39, 0), (3, 40, 0), (3, 41, 0), (0, 0, 0), (0, 0, 0), (0, 0, 0), (3, 42, 0), (3, 43, 0), (0, 0, 0), (3, 44, 0), (0, 0, 0), (3, 45, 0), (0, 0, 0), (0, 0, 0), (0, 0, 0), (3, 46, 0), (1, 0, 0), (0, 0, 0), (0, 0, 0), (0, 0, 0), (0, 0, 0), (0, 0, 0), (0, 0, 0), (3, 47, 0), (3, 48, 0), (3, 49, 0), (3, 50, 0), (3, 51, 0), (0, 0, 0), (3, 52, 0), (3, 53, 0), (3, 54, 0), (3, 55, 0), (3, 56, 0)]
  | _ => []
/-- a world: the kit's class numbers, the classes of arrays by kind, which cells there are, where they lie, where what is outside lies -/
abbrev ZW : Type := va_G × (Nat → ClassId) × List (Nat × Nat) × (Nat → Nat → Nat) × (Nat → Nat)
abbrev zD (Y : ZW) : va_G := Y.1
abbrev zcA (Y : ZW) : Nat → ClassId := Y.2.1
abbrev zids (Y : ZW) : List (Nat × Nat) := Y.2.2.1
abbrev zad (Y : ZW) : Nat → Nat → Nat := Y.2.2.2.1
abbrev zex (Y : ZW) : Nat → Nat := Y.2.2.2.2
def ztys (Y : ZW) : List (ClassId × FieldType) := [(zcA Y 1, .int), (zcA Y 2, .byte), (zcA Y 3, .boolean), (zcA Y 4, .long), (zcA Y 5, .object "ThirdAlike$Street"), (zcA Y 6, .object "ThirdAlike$Tape")]
def zval (Y : ZW) (v : ZV) : Value := match v with
  | .inl x => .int (Int32.ofInt x)
  | .inr (.inl x) => .long (Int64.ofInt x)
  | .inr (.inr (.inl q)) => .ref (zad Y q.1 q.2)
  | .inr (.inr (.inr k)) => .ref (zex Y k)
def zok (Y : ZW) (v : ZV) : Prop := match v with
  | .inl x => -2147483648 ≤ x ∧ x < 2147483648
  | .inr (.inl x) => -9223372036854775808 ≤ x ∧ x < 9223372036854775808
  | .inr (.inr (.inl q)) => q ∈ zids Y
  | .inr (.inr (.inr _)) => True
/-- a field's value -/
def zfv (Y : ZW) (t : Nat × Nat × Nat) (i : Nat) (x : Int) : Value := match t.1 with
  | 0 => .int (Int32.ofInt x)
  | 1 => .int (Int32.ofInt x)
  | 3 => .ref (zad Y t.2.1 i)
  | 4 => .ref (zad Y t.2.1 t.2.2)
  | 5 => .ref (zad Y t.2.1 x.toNat)
  | _ => if x < 0 then .null else .ref (zad Y t.2.1 x.toNat)
/-- what may stand in a place -/
def zfr (Y : ZW) (t : Nat × Nat × Nat) (i : Nat) (x : Int) : Prop := match t.1 with
  | 0 => -2147483648 ≤ x ∧ x < 2147483648
  | 1 => 0 ≤ x ∧ x ≤ 1
  | 3 => (t.2.1, i) ∈ zids Y
  | 4 => (t.2.1, t.2.2) ∈ zids Y
  | 5 => (t.2.1, x.toNat) ∈ zids Y
  | _ => 0 ≤ x → (t.2.1, x.toNat) ∈ zids Y
def zar (k : Nat) (x : Int) : Prop := match k with
  | 1 => -2147483648 ≤ x ∧ x < 2147483648
  | 2 => -128 ≤ x ∧ x < 128
  | 3 => 0 ≤ x ∧ x ≤ 1
  | 4 => -9223372036854775808 ≤ x ∧ x < 9223372036854775808
  | _ => True
def zcell (Y : ZW) (f i : Nat) (h : Nat → Int) : va_E := match (zfam f).1 with
  | 0 => .inr (f, (List.range (zfam f).2).map fun k => zfv Y ((zfld f).getD k (9, 0, 0)) i (h k))
  | 1 => .inl (zcA Y 1, (zfam f).2, .inl fun j => Int32.ofInt (h j))
  | 2 => .inl (zcA Y 2, (zfam f).2, .inl fun j => Int32.ofInt (h j))
  | 3 => .inl (zcA Y 3, (zfam f).2, .inl fun j => Int32.ofInt (h j))
  | 4 => .inl (zcA Y 4, (zfam f).2, .inr (.inl fun j => Int64.ofInt (h j)))
  | 5 => .inl (zcA Y 5, (zfam f).2, .inr (.inr (.inr (.inr fun j => some (zad Y 3 j)))))
  | _ => .inl (zcA Y 6, (zfam f).2, .inr (.inr (.inr (.inr fun j => some (zad Y 4 j)))))
def zws (Y : ZW) (g : ZG) : va_W := (zids Y).map fun q => (zad Y q.1 q.2, zcell Y q.1 q.2 (g q.1 q.2))
def zZ (Y : ZW) : Nat → Prop := fun a => ∃ q, q ∈ zids Y ∧ zad Y q.1 q.2 = a
/-- every place holds what it may -/
def zrg (Y : ZW) (g : ZG) : Prop := ∀ f i, (f, i) ∈ zids Y → ((zfam f).1 = 0 → ∀ k, k < (zfam f).2 → zfr Y ((zfld f).getD k (9, 0, 0)) i (g f i k)) ∧ ∀ k, k < (zfam f).2 → zar (zfam f).1 (g f i k)
/-- the cells are of the families; the rows of cells are whole -/
def zwf (Y : ZW) : Prop := ∀ f i, (f, i) ∈ zids Y → (zfam f).1 < 9 ∧ ((zfam f).1 = 5 → ∀ j, j < (zfam f).2 → (3, j) ∈ zids Y) ∧ ((zfam f).1 = 6 → ∀ j, j < (zfam f).2 → (4, j) ∈ zids Y)
def zH (Y : ZW) (g : ZG) (H : Heap) : Prop := va_P (zD Y) vwCl (zws Y g) H ∧ va_D (zZ Y) (zws Y g) ∧ zrg Y g
/-- static rows outside -/
def zxr (k : Nat) : List Int := match k with
  | 0 => [-1, 0, 0, 0, 1, 2, 3]
  | 1 => [0, 1, 21, 26, 34, 41, 51, 61, 67, 76, 81]
  | 10 => [109, 111, 115, 116, 32]
  | 11 => [100, 101, 97, 114, 32]
  | 12 => [119, 105, 115, 104, 32]
  | 13 => [112, 115, 107, 104, 102, 109]
  | 14 => [60, 61, 62]
  | _ => []
def zkT (k : Nat) : Nat × String := match k with
  | 0 => (48, "most ")
  | 1 => (50, "dear ")
  | 2 => (52, "wish ")
  | 3 => (80, "pskhfm")
  | _ => (86, "<=>")
def zxlen : List Nat := [5, 5, 5, 6, 3]
def zxbyt : List (List Int32) := [[109, 111, 115, 116, 32], [100, 101, 97, 114, 32], [119, 105, 115, 104, 32], [112, 115, 107, 104, 102, 109], [60, 61, 62]]
def zExt (Y : ZW) (s : State) (H : Heap) : Prop :=
  va_Z "ThirdAlike" "ABOVE" "[I" (.ref (zex Y 0)) (zZ Y) s H ∧ va_T .int (zex Y 0) 7 (fun j => .int (Int32.ofInt ((zxr 0).getD j 0))) (zZ Y) s H ∧
  va_Z "ThirdAlike" "WISHES_THAT_DIFFER" "[I" (.ref (zex Y 1)) (zZ Y) s H ∧ va_T .int (zex Y 1) 11 (fun j => .int (Int32.ofInt ((zxr 1).getD j 0))) (zZ Y) s H ∧
  vk_S 5 zxlen zxbyt (fun i => zex Y (10 + i)) (fun i => zex Y (20 + i)) (zZ Y) s H ∧
  (∀ i, i < 5 → vk_R "ThirdAlike$Text" (zkT i).1 (zkT i).2 (zex Y (10 + i)) s) ∧
  va_Z "java/lang/String" "COMPACT_STRINGS" "Z" (.int 1) (zZ Y) s H ∧ va_Zq "jdk/internal/util/Preconditions" "SIOOBE_FORMATTER" "Ljava/util/function/BiFunction;" (zZ Y) s H
/-- a method: its class, its name, its code, its locals, its answer, its instructions, what its pool's entries are -/
abbrev ZPE : Type := (Nat × Nat) ⊕ ZV
abbrev ZM : Type := String × MethodName × ByteArray × Nat × Option FieldType × List (Option (Instr × Nat)) × (Nat → Option ZPE)
abbrev zown (M : ZM) : String := M.1
abbrev zy (M : ZM) : MethodName := M.2.1
abbrev zcc (M : ZM) : ByteArray := M.2.2.1
abbrev zn (M : ZM) : Nat := M.2.2.2.1
abbrev zret (M : ZM) : Option FieldType := M.2.2.2.2.1
abbrev zT (M : ZM) : List (Option (Instr × Nat)) := M.2.2.2.2.2.1
abbrev zPl (M : ZM) : Nat → Option ZPE := M.2.2.2.2.2.2
def zat (M : ZM) (pc : Nat) : Option (Instr × Nat) := (zT M).getD pc none
def zchk (b : ByteArray) : Nat → List (Option (Instr × Nat)) → Bool
  | _, [] => true
  | k, none :: r => zchk b (k + 1) r
  | k, some x :: r => (match decode b k with
    | .ok y => decide (y = x)
    | .error _ => false) && zchk b (k + 1) r
theorem zchk_at {b : ByteArray} : ∀ (T : List (Option (Instr × Nat))) (k pc : Nat) (x : Instr × Nat), zchk b k T = true → T.getD pc none = some x → decode b (k + pc) = .ok x := by
  intro T
  induction T with
  | nil => intro k pc x _ h; simp at h
  | cons o r ih =>
    intro k pc x h hx
    cases pc with
    | zero =>
      have hx : o = some x := by simpa using hx
      subst hx
      simp only [zchk, Bool.and_eq_true] at h
      cases hd : decode b k with
      | ok y => rw [hd] at h; simp only [decide_eq_true_eq] at h; rw [h.1]
      | error q => rw [hd] at h; simp at h
    | succ pc =>
      have hx : r.getD pc none = some x := by simpa using hx
      have h2 : zchk b (k + 1) r = true := by
        cases o with
        | none => exact h
        | some o => simp only [zchk, Bool.and_eq_true] at h; exact h.2
      have h3 := ih (k + 1) pc x h2 hx
      rw [show k + (pc + 1) = k + 1 + pc by omega]
      exact h3
def zPE (own : String) (idx : Nat) (e : ZPE) : Prop := match e with
  | .inl q => ∃ r : vw_C, vwCl[q.1]? = some r ∧ q.2 < r.2.2 ∧ Cond.fieldLink own idx r.1 (r.2.1 q.2).2.1 (r.2.1 q.2).2.2.1 ∈ lw_tbl
  | .inr (.inr (.inl x)) => Cond.constantLong own idx (Int64.ofInt x) ∈ lw_tbl ∧ -9223372036854775808 ≤ x ∧ x < 9223372036854775808
  | .inr (.inr (.inr (.inr k))) => (k = 0 ∧ Cond.fieldLink own idx "ThirdAlike" "ABOVE" "[I" ∈ lw_tbl) ∨ (k = 1 ∧ Cond.fieldLink own idx "ThirdAlike" "WISHES_THAT_DIFFER" "[I" ∈ lw_tbl) ∨ ∃ i, i < 5 ∧ k = 10 + i ∧ own = "ThirdAlike$Text" ∧ idx = (zkT i).1
  | _ => False
def zgood (M : ZM) : Prop := plainName (zy M).cls = true ∧ (zy M).cls = zown M ∧ Cond.code (zy M) (zcc M) (zn M) (zret M) ∈ lw_tbl ∧ zchk (zcc M) 0 (zT M) = true ∧ ∀ idx e, zPl M idx = some e → zPE (zown M) idx e
def zrm (d : Nat) : Room := { frames := d, cells := 0, slots := 0, locals := 40 * d }
def zQ (Y : ZW) (Q : Option ZV → ZG → Prop) : Array Value → State → Outcome → State → Prop := fun _ st o t => (∃ (r : Option ZV) (g' : ZG), o = .returned (r.map (zval Y)) ∧ Q r g' ∧ (∀ v, r = some v → zok Y v) ∧ zH Y g' t.heap) ∧ va_F (zZ Y) st t
def zFx (Y : ZW) (M : ZM) (p : Program) (s : State) (m : MethodId) (args : Array Value) (meth : Method) (c : Code) : Prop :=
  zgood M ∧ zwf Y ∧ p.tables.exec = Jvm.exec ∧ c.code = zcc M ∧ c.maxLocals = zn M ∧ meth.sig.returnType = zret M ∧ meth.locks = false ∧ s.vm.findClass (zown M) = some m.cls ∧ (∀ w ∈ lw_tbl, w.before args s = true) ∧ va_K (zD Y) vwCl (ztys Y) s ∧ zExt Y s s.heap
/-- the locals -/
def zLs (Y : ZW) (L : List ZV) (ls : Array Slot) (n : Nat) : Prop := ls.size = n ∧ lv_wf ls ∧ L.length = n ∧ ∀ (i : Nat) (v : ZV), L[i]? = some v → v ≠ ZX 99 → ls[i]? = some (.val (zval Y v)) ∧ zok Y v
def ZVV (Y : ZW) (M : ZM) (d : Nat) (Q : Option ZV → ZG → Prop) (pc : Nat) (L S : List ZV) (g : ZG) : Prop :=
  ∀ (p : Program) (l : Launch) (e : Env) (s : State) (m : MethodId) (args : Array Value) (below : List Frame) (meth : Method) (c : Code) (H : Heap) (locs : List Loc) (ls : Array Slot),
    zFx Y M p s m args meth c → zH Y g H → va_S (zZ Y) s.heap H locs → zLs Y L ls (zn M) → (∀ v, v ∈ S → zok Y v) →
    W p l e (zrm d) s m args below meth c H locs 0 0 (MQ below (zQ Y Q) args s 0 0 (zZ Y)) (F0 m pc ls (S.map (zval Y)))
end
section
/-! numbers -/
def zw (x : Int) : Int := x.bmod 4294967296
def zwl (x : Int) : Int := x.bmod 18446744073709551616
theorem zw_id {x : Int} (h1 : -2147483648 ≤ x) (h2 : x < 2147483648) : zw x = x := Int.bmod_eq_of_le (by omega) (by omega)
theorem zw_ok (x : Int) : -2147483648 ≤ zw x ∧ zw x < 2147483648 := by
  unfold zw
  have h1 := Int.le_bmod (x := x) (m := 4294967296) (by decide)
  have h2 := Int.bmod_lt (x := x) (m := 4294967296) (by decide)
  omega
theorem zwl_ok (x : Int) : -9223372036854775808 ≤ zwl x ∧ zwl x < 9223372036854775808 := by
  unfold zwl
  have h1 := Int.le_bmod (x := x) (m := 18446744073709551616) (by decide)
  have h2 := Int.bmod_lt (x := x) (m := 18446744073709551616) (by decide)
  omega
theorem zI_toInt {x : Int} (h : -2147483648 ≤ x ∧ x < 2147483648) : (Int32.ofInt x).toInt = x := Int32.toInt_ofInt_of_le (by omega) (by omega)
theorem zI_eq {v : Int32} {x : Int} (h : v.toInt = x) : Int32.ofInt x = v := by rw [← h, Int32.ofInt_toInt]
theorem zJ_toInt {x : Int} (h : -9223372036854775808 ≤ x ∧ x < 9223372036854775808) : (Int64.ofInt x).toInt = x := Int64.toInt_ofInt_of_le (by omega) (by omega)
theorem zJ_eq {v : Int64} {x : Int} (h : v.toInt = x) : Int64.ofInt x = v := by rw [← h, Int64.ofInt_toInt]
theorem zI_rng (v : Int32) : -2147483648 ≤ v.toInt ∧ v.toInt < 2147483648 := by
  have h1 := v.le_toInt; have h2 := v.toInt_lt; omega
theorem zJ_rng (v : Int64) : -9223372036854775808 ≤ v.toInt ∧ v.toInt < 9223372036854775808 := by
  have h1 := v.le_toInt; have h2 := v.toInt_lt; omega
theorem zI_wr (x : Int) : Int32.ofInt (zw x) = Int32.ofInt x := by
  apply Int32.toInt.inj
  rw [zI_toInt (zw_ok x), Int32.toInt_ofInt]; rfl
theorem zadd_v (x y : Int) : Int32.ofInt (zw (x + y)) = Int32.ofInt x + Int32.ofInt y := by rw [zI_wr, Int32.ofInt_add]
theorem zsub_v (x y : Int) : Int32.ofInt (zw (x - y)) = Int32.ofInt x - Int32.ofInt y := by rw [zI_wr, Int32.ofInt_sub]
theorem zmul_v (x y : Int) : Int32.ofInt (zw (x * y)) = Int32.ofInt x * Int32.ofInt y := by rw [zI_wr, Int32.ofInt_mul]
theorem zneg_v (x : Int) : Int32.ofInt (zw (-x)) = -Int32.ofInt x := by rw [zI_wr, Int32.ofInt_neg]
def zand (x y : Int) : Int := (Int32.ofInt x &&& Int32.ofInt y).toInt
def zor (x y : Int) : Int := (Int32.ofInt x ||| Int32.ofInt y).toInt
def zxor (x y : Int) : Int := (Int32.ofInt x ^^^ Int32.ofInt y).toInt
def zshl (x y : Int) : Int := (Int32.ofInt x <<< (Int32.ofInt y &&& 31)).toInt
def zshr (x y : Int) : Int := (Int32.ofInt x >>> (Int32.ofInt y &&& 31)).toInt
def zland (x y : Int) : Int := (Int64.ofInt x &&& Int64.ofInt y).toInt
def zlor (x y : Int) : Int := (Int64.ofInt x ||| Int64.ofInt y).toInt
def zlshl (x y : Int) : Int := (Int64.ofInt x <<< ((Int32.ofInt y).toInt64 &&& 63)).toInt
theorem zdiv_v {x y : Int} (hx : -2147483648 ≤ x ∧ x < 2147483648) (hy : -2147483648 ≤ y ∧ y < 2147483648) : Int32.ofInt (zw (x.tdiv y)) = Int32.ofInt x / Int32.ofInt y := by
  apply Int32.toInt.inj
  rw [zI_toInt (zw_ok _), Int32.toInt_div, zI_toInt hx, zI_toInt hy]; rfl
theorem zrem_v {x y : Int} (hx : -2147483648 ≤ x ∧ x < 2147483648) (hy : -2147483648 ≤ y ∧ y < 2147483648) : Int32.ofInt (x.tmod y) = Int32.ofInt x - Int32.ofInt x / Int32.ofInt y * Int32.ofInt y := by
  have h := zdiv_v hx hy
  rw [zI_wr] at h
  rw [← h, ← Int32.ofInt_mul, ← Int32.ofInt_sub]
  congr 1
  have := Int.tmod_add_mul_tdiv x y
  rw [Int.mul_comm] at this
  omega
theorem zrem_ok {x y : Int} (hx : -2147483648 ≤ x ∧ x < 2147483648) : -2147483648 ≤ x.tmod y ∧ x.tmod y < 2147483648 := by
  have h1 : (x.tmod y).natAbs ≤ x.natAbs := by
    rw [Int.natAbs_tmod]; exact Nat.mod_le _ _
  rcases Int.lt_or_le x 0 with h | h
  · have : x.tmod y ≤ 0 := by
      have := Int.tmod_nonneg y (a := -x) (by omega)
      rw [Int.neg_tmod] at this; omega
    omega
  · have := Int.tmod_nonneg y h
    omega
theorem zI_ne {y : Int} (hy : -2147483648 ≤ y ∧ y < 2147483648) (h : y ≠ 0) : ¬ Int32.ofInt y = 0 := by
  intro q
  have := congrArg Int32.toInt q
  rw [zI_toInt hy] at this
  exact h this
theorem zI_in {j : Int} {n : Nat} (hj : -2147483648 ≤ j ∧ j < 2147483648) (h0 : 0 ≤ j) (h1 : j < n) : vp_in (Int32.ofInt j) n ∧ (Int32.ofInt j).toNatClampNeg = j.toNat := by
  have e : (Int32.ofInt j).toNatClampNeg = j.toNat := Int32.toNatClampNeg_ofInt_of_le (by omega) (by omega)
  refine ⟨fun q => ?_, e⟩
  rcases q with q | q
  · have := Int32.lt_iff_toInt_lt.mp q
    rw [zI_toInt hj] at this
    have h00 : (0 : Int32).toInt = 0 := rfl
    omega
  · rw [e] at q; omega
/-! cells -/
theorem zws_at {Y : ZW} {g : ZG} {q : Nat} {x : Nat × Nat} (h : (zids Y)[q]? = some x) : (zws Y g)[q]? = some (zad Y x.1 x.2, zcell Y x.1 x.2 (g x.1 x.2)) := by
  unfold zws
  rw [List.getElem?_map, h]; rfl
theorem zws_set {Y : ZW} {g : ZG} {q f i k : Nat} {v : Int} {A : Nat → Prop} (hD : va_D A (zws Y g)) (h : (zids Y)[q]? = some (f, i)) : zws Y (zup g f i k v) = (zws Y g).set q (zad Y f i, zcell Y f i (zup g f i k v f i)) := by
  apply List.ext_getElem?
  intro j
  rw [List.getElem?_set]
  by_cases hj : q = j
  · subst hj
    rw [if_pos rfl, zws_at h]
    have hlt : q < (zids Y).length := (List.getElem?_eq_some_iff.mp h).1
    rw [if_pos (by unfold zws; rw [List.length_map]; exact hlt)]
  · rw [if_neg hj]
    cases hx : (zids Y)[j]? with
    | none => unfold zws; rw [List.getElem?_map, List.getElem?_map, hx]; rfl
    | some x =>
      rw [zws_at hx, zws_at hx]
      have hne : ¬ (x.1 = f ∧ x.2 = i) := by
        rintro ⟨rfl, rfl⟩
        exact hj (hD.1 q j _ _ (zws_at h) (zws_at hx) rfl)
      have : zup g f i k v x.1 x.2 = g x.1 x.2 := by
        funext c
        unfold zup
        rw [if_neg (fun z => hne ⟨z.1, z.2.1⟩)]
      rw [this]
theorem zup_at (g : ZG) (f i k : Nat) (v : Int) : zup g f i k v f i = fun c => if c = k then v else g f i c := by
  funext c; unfold zup; simp
theorem zrg_up {Y : ZW} {g : ZG} {f i k : Nat} {v : Int} (h : zrg Y g) (ho : (zfam f).1 = 0 → zfr Y ((zfld f).getD k (9, 0, 0)) i v) (ha : k < (zfam f).2 → zar (zfam f).1 v) : zrg Y (zup g f i k v) := by
  intro a b hab
  obtain ⟨h1, h2⟩ := h a b hab
  refine ⟨fun h0 c hc => ?_, fun c hc => ?_⟩
  · unfold zup
    by_cases hq : a = f ∧ b = i ∧ c = k
    · rw [if_pos hq]
      obtain ⟨rfl, rfl, rfl⟩ := hq
      exact ho h0
    · rw [if_neg hq]; exact h1 h0 c hc
  · unfold zup
    by_cases hq : a = f ∧ b = i ∧ c = k
    · rw [if_pos hq]
      obtain ⟨rfl, rfl, rfl⟩ := hq
      exact ha hc
    · rw [if_neg hq]; exact h2 c hc
/-! the locals as the kit's list -/
def zlv (Y : ZW) (L : List ZV) : List (Nat × Value) := (List.range L.length).filterMap fun i => match L[i]? with
  | some v => if v = ZX 99 then none else some (i, zval Y v)
  | none => none
theorem zlv_in {Y : ZW} {L : List ZV} {q : Nat × Value} : q ∈ zlv Y L ↔ ∃ v, L[q.1]? = some v ∧ v ≠ ZX 99 ∧ q.2 = zval Y v := by
  unfold zlv
  rw [List.mem_filterMap]
  constructor
  · rintro ⟨i, hi, h⟩
    cases hv : L[i]? with
    | none => rw [hv] at h; cases h
    | some v =>
      rw [hv] at h
      by_cases hz : v = ZX 99
      · simp [hz] at h
      · simp only [hz, if_false, Option.some.injEq] at h
        subst h
        exact ⟨v, hv, hz, rfl⟩
  · rintro ⟨v, h1, h2, h3⟩
    refine ⟨q.1, List.mem_range.mpr (List.getElem?_eq_some_iff.mp h1).1, ?_⟩
    rw [h1]
    simp only [h2, if_false]
    rw [← h3]
theorem zLs.lv {Y : ZW} {L : List ZV} {ls : Array Slot} {n : Nat} (h : zLs Y L ls n) : lv_has ls n (zlv Y L) := by
  refine ⟨h.1, h.2.1, fun q hq => ?_⟩
  obtain ⟨v, h1, h2, h3⟩ := zlv_in.mp hq
  rw [h3]
  exact (h.2.2.2 q.1 v h1 h2).1
theorem zval_cat (Y : ZW) (v : ZV) : (zval Y v).category = (match v with | .inr (.inl _) => 2 | _ => 1) := by
  rcases v with x | x | x | x <;> rfl
/-- behind a store of a value of one slot -/
theorem zLs.set1 {Y : ZW} {L : List ZV} {ls ls' : Array Slot} {n i : Nat} {v : ZV} (h : zLs Y L ls n) (hi : i < n) (hv : zok Y v) (hp : ∀ j x, j + 1 = i → L[j]? ≠ some (ZJ x))
    (h' : lv_has ls' n ((i, zval Y v) :: (zlv Y L).filter (fun q => !(q.1 == i) && !(q.1 + 1 == i && q.2.category == 2)))) : zLs Y (L.set i v) ls' n := by
  refine ⟨h'.1, h'.2.1, by rw [List.length_set]; exact h.2.2.1, fun j u hj hu => ?_⟩
  rw [List.getElem?_set] at hj
  by_cases hij : i = j
  · subst hij
    rw [if_pos rfl] at hj
    by_cases hl : i < L.length
    · rw [if_pos hl] at hj
      cases hj
      exact ⟨h'.2.2 (i, zval Y v) List.mem_cons_self, hv⟩
    · rw [if_neg hl] at hj; cases hj
  · rw [if_neg hij] at hj
    refine ⟨?_, (h.2.2.2 j u hj hu).2⟩
    refine h'.2.2 (j, zval Y u) (List.mem_cons_of_mem _ (List.mem_filter.mpr ⟨zlv_in.mpr ⟨u, hj, hu, rfl⟩, ?_⟩))
    simp only [Bool.and_eq_true, Bool.not_eq_true', beq_eq_false_iff_ne, ne_eq, Bool.and_eq_false_iff]
    refine ⟨fun q => hij q.symm, ?_⟩
    by_cases hq : j + 1 = i
    · right
      intro hc
      rcases u with x | x | x | x
      · cases hc
      · exact hp j x hq hj
      · cases hc
      · cases hc
    · exact Or.inl hq
theorem zLs.set2 {Y : ZW} {L : List ZV} {ls ls' : Array Slot} {n i : Nat} {x : Int} (h : zLs Y L ls n) (hi : i + 1 < n) (hv : zok Y (ZJ x)) (hp : ∀ j x, j + 1 = i → L[j]? ≠ some (ZJ x))
    (h' : lv_has ls' n ((i, Value.long (Int64.ofInt x)) :: (zlv Y L).filter (fun q => !(q.1 == i) && (!(q.1 == i + 1) && !(q.1 + 1 == i && q.2.category == 2))))) : zLs Y ((L.set i (ZJ x)).set (i + 1) (ZX 99)) ls' n := by
  refine ⟨h'.1, h'.2.1, by rw [List.length_set, List.length_set]; exact h.2.2.1, fun j u hj hu => ?_⟩
  rw [List.getElem?_set] at hj
  by_cases h1 : i + 1 = j
  · subst h1
    rw [if_pos rfl] at hj
    split at hj
    · cases hj; exact absurd rfl hu
    · cases hj
  · rw [if_neg h1, List.getElem?_set] at hj
    by_cases hij : i = j
    · subst hij
      rw [if_pos rfl] at hj
      split at hj
      · cases hj
        exact ⟨h'.2.2 (i, Value.long (Int64.ofInt x)) List.mem_cons_self, hv⟩
      · cases hj
    · rw [if_neg hij] at hj
      refine ⟨?_, (h.2.2.2 j u hj hu).2⟩
      refine h'.2.2 (j, zval Y u) (List.mem_cons_of_mem _ (List.mem_filter.mpr ⟨zlv_in.mpr ⟨u, hj, hu, rfl⟩, ?_⟩))
      simp only [Bool.and_eq_true, Bool.not_eq_true', beq_eq_false_iff_ne, ne_eq, Bool.and_eq_false_iff]
      refine ⟨fun q => hij q.symm, fun q => h1 q.symm, ?_⟩
      by_cases hq : j + 1 = i
      · right
        intro hc
        rcases u with x | x | x | x
        · cases hc
        · exact hp j x hq hj
        · cases hc
        · cases hc
      · exact Or.inl hq
end
