section
-- ===== PART A: goes FIRST, ahead of the names: the tables' words, and 'selects' of the private methods out of them =====
/-- a private method of a class that the tables say can be made, by its rows of tables_1 -/
def lw_okq (q : MethodName × Nat) : Prop := (q.1.cls ≠ "java/lang/invoke/MethodHandle" ∧ q.1.cls ≠ "java/lang/invoke/VarHandle") ∧ Cond.instantiable q.1.cls q.2 ∈ tables_1 ∧ Cond.privateMethod q.1 ∈ tables_1 ∧ Cond.instanceMethod q.1 ∈ tables_1
theorem lw_p0 : lw_okq (⟨"ThirdAlike$State", "areNeighbours", "(II)Z"⟩, 12) := ⟨⟨by decide +kernel, by decide +kernel⟩, List.mem_of_getElem? (i := 138) (by decide +kernel), List.mem_of_getElem? (i := 148) (by decide +kernel), List.mem_of_getElem? (i := 149) (by decide +kernel)⟩
theorem lw_p1 : lw_okq (⟨"ThirdAlike", "isHouse", "(I)Z"⟩, 10) := ⟨⟨by decide +kernel, by decide +kernel⟩, List.mem_of_getElem? (i := 17) (by decide +kernel), List.mem_of_getElem? (i := 294) (by decide +kernel), List.mem_of_getElem? (i := 295) (by decide +kernel)⟩
theorem lw_p2 : lw_okq (⟨"ThirdAlike", "isPerson", "(I)Z"⟩, 10) := ⟨⟨by decide +kernel, by decide +kernel⟩, List.mem_of_getElem? (i := 17) (by decide +kernel), List.mem_of_getElem? (i := 314) (by decide +kernel), List.mem_of_getElem? (i := 315) (by decide +kernel)⟩
theorem lw_p3 : lw_okq (⟨"ThirdAlike$Life", "weigh", "(II)V"⟩, 9) := ⟨⟨by decide +kernel, by decide +kernel⟩, List.mem_of_getElem? (i := 215) (by decide +kernel), List.mem_of_getElem? (i := 333) (by decide +kernel), List.mem_of_getElem? (i := 334) (by decide +kernel)⟩
theorem lw_p4 : lw_okq (⟨"ThirdAlike$Life", "nearest", "(II)I"⟩, 9) := ⟨⟨by decide +kernel, by decide +kernel⟩, List.mem_of_getElem? (i := 215) (by decide +kernel), List.mem_of_getElem? (i := 353) (by decide +kernel), List.mem_of_getElem? (i := 354) (by decide +kernel)⟩
theorem lw_p5 : lw_okq (⟨"ThirdAlike$Life", "nextBehind", "(I)I"⟩, 9) := ⟨⟨by decide +kernel, by decide +kernel⟩, List.mem_of_getElem? (i := 215) (by decide +kernel), List.mem_of_getElem? (i := 360) (by decide +kernel), List.mem_of_getElem? (i := 361) (by decide +kernel)⟩
theorem lw_p6 : lw_okq (⟨"ThirdAlike$Life", "partnerOf", "(I)I"⟩, 9) := ⟨⟨by decide +kernel, by decide +kernel⟩, List.mem_of_getElem? (i := 215) (by decide +kernel), List.mem_of_getElem? (i := 364) (by decide +kernel), List.mem_of_getElem? (i := 365) (by decide +kernel)⟩
theorem lw_p7 : lw_okq (⟨"ThirdAlike$Life", "changeHouses", "(II)V"⟩, 9) := ⟨⟨by decide +kernel, by decide +kernel⟩, List.mem_of_getElem? (i := 215) (by decide +kernel), List.mem_of_getElem? (i := 368) (by decide +kernel), List.mem_of_getElem? (i := 369) (by decide +kernel)⟩
theorem lw_p8 : lw_okq (⟨"ThirdAlike$Life", "least", "(I)I"⟩, 9) := ⟨⟨by decide +kernel, by decide +kernel⟩, List.mem_of_getElem? (i := 215) (by decide +kernel), List.mem_of_getElem? (i := 372) (by decide +kernel), List.mem_of_getElem? (i := 373) (by decide +kernel)⟩
theorem lw_p9 : lw_okq (⟨"ThirdAlike$Text", "lookAt", "(I)V"⟩, 6) := ⟨⟨by decide +kernel, by decide +kernel⟩, List.mem_of_getElem? (i := 29) (by decide +kernel), List.mem_of_getElem? (i := 400) (by decide +kernel), List.mem_of_getElem? (i := 401) (by decide +kernel)⟩
theorem lw_p10 : lw_okq (⟨"ThirdAlike$Text", "expect", "(I)V"⟩, 6) := ⟨⟨by decide +kernel, by decide +kernel⟩, List.mem_of_getElem? (i := 29) (by decide +kernel), List.mem_of_getElem? (i := 404) (by decide +kernel), List.mem_of_getElem? (i := 405) (by decide +kernel)⟩
theorem lw_p11 : lw_okq (⟨"ThirdAlike$Text", "readClause", "()V"⟩, 6) := ⟨⟨by decide +kernel, by decide +kernel⟩, List.mem_of_getElem? (i := 29) (by decide +kernel), List.mem_of_getElem? (i := 408) (by decide +kernel), List.mem_of_getElem? (i := 409) (by decide +kernel)⟩
theorem lw_p12 : lw_okq (⟨"ThirdAlike$Text", "readNumber", "()I"⟩, 6) := ⟨⟨by decide +kernel, by decide +kernel⟩, List.mem_of_getElem? (i := 29) (by decide +kernel), List.mem_of_getElem? (i := 463) (by decide +kernel), List.mem_of_getElem? (i := 464) (by decide +kernel)⟩
theorem lw_p13 : lw_okq (⟨"ThirdAlike$Text", "readOneOf", "(Ljava/lang/String;)I"⟩, 6) := ⟨⟨by decide +kernel, by decide +kernel⟩, List.mem_of_getElem? (i := 29) (by decide +kernel), List.mem_of_getElem? (i := 481) (by decide +kernel), List.mem_of_getElem? (i := 482) (by decide +kernel)⟩
theorem lw_p14 : lw_okq (⟨"ThirdAlike$Actor", "begin", "(I)V"⟩, 5) := ⟨⟨by decide +kernel, by decide +kernel⟩, List.mem_of_getElem? (i := 56) (by decide +kernel), List.mem_of_getElem? (i := 633) (by decide +kernel), List.mem_of_getElem? (i := 634) (by decide +kernel)⟩
theorem lw_p15 : lw_okq (⟨"ThirdAlikeModel", "isHouse", "(I)Z"⟩, 52) := ⟨⟨by decide +kernel, by decide +kernel⟩, List.mem_of_getElem? (i := 689) (by decide +kernel), List.mem_of_getElem? (i := 857) (by decide +kernel), List.mem_of_getElem? (i := 858) (by decide +kernel)⟩
def lw_privs_1 : List (MethodName × Nat) := [(⟨"ThirdAlike$State", "areNeighbours", "(II)Z"⟩, 12), (⟨"ThirdAlike", "isHouse", "(I)Z"⟩, 10), (⟨"ThirdAlike", "isPerson", "(I)Z"⟩, 10), (⟨"ThirdAlike$Life", "weigh", "(II)V"⟩, 9), (⟨"ThirdAlike$Life", "nearest", "(II)I"⟩, 9), (⟨"ThirdAlike$Life", "nextBehind", "(I)I"⟩, 9), (⟨"ThirdAlike$Life", "partnerOf", "(I)I"⟩, 9), (⟨"ThirdAlike$Life", "changeHouses", "(II)V"⟩, 9), (⟨"ThirdAlike$Life", "least", "(I)I"⟩, 9), (⟨"ThirdAlike$Text", "lookAt", "(I)V"⟩, 6), (⟨"ThirdAlike$Text", "expect", "(I)V"⟩, 6), (⟨"ThirdAlike$Text", "readClause", "()V"⟩, 6), (⟨"ThirdAlike$Text", "readNumber", "()I"⟩, 6), (⟨"ThirdAlike$Text", "readOneOf", "(Ljava/lang/String;)I"⟩, 6), (⟨"ThirdAlike$Actor", "begin", "(I)V"⟩, 5), (⟨"ThirdAlikeModel", "isHouse", "(I)Z"⟩, 52)]
theorem lw_r1 : ∀ q ∈ lw_privs_1, lw_okq q := List.forall_mem_cons.mpr ⟨lw_p0, List.forall_mem_cons.mpr ⟨lw_p1, List.forall_mem_cons.mpr ⟨lw_p2, List.forall_mem_cons.mpr ⟨lw_p3, List.forall_mem_cons.mpr ⟨lw_p4, List.forall_mem_cons.mpr ⟨lw_p5, List.forall_mem_cons.mpr ⟨lw_p6, List.forall_mem_cons.mpr ⟨lw_p7, List.forall_mem_cons.mpr ⟨lw_p8, List.forall_mem_cons.mpr ⟨lw_p9, List.forall_mem_cons.mpr ⟨lw_p10, List.forall_mem_cons.mpr ⟨lw_p11, List.forall_mem_cons.mpr ⟨lw_p12, List.forall_mem_cons.mpr ⟨lw_p13, List.forall_mem_cons.mpr ⟨lw_p14, List.forall_mem_cons.mpr ⟨lw_p15, fun _ h => absurd h List.not_mem_nil⟩⟩⟩⟩⟩⟩⟩⟩⟩⟩⟩⟩⟩⟩⟩⟩
theorem lw_p16 : lw_okq (⟨"ThirdAlikeModel", "in", "(III)Z"⟩, 52) := ⟨⟨by decide +kernel, by decide +kernel⟩, List.mem_of_getElem? (i := 689) (by decide +kernel), List.mem_of_getElem? (i := 861) (by decide +kernel), List.mem_of_getElem? (i := 862) (by decide +kernel)⟩
theorem lw_p17 : lw_okq (⟨"ThirdAlikeModel", "areNext", "(II)Z"⟩, 52) := ⟨⟨by decide +kernel, by decide +kernel⟩, List.mem_of_getElem? (i := 689) (by decide +kernel), List.mem_of_getElem? (i := 865) (by decide +kernel), List.mem_of_getElem? (i := 866) (by decide +kernel)⟩
theorem lw_p18 : lw_okq (⟨"ThirdAlikeModel", "whoIn", "(I)I"⟩, 52) := ⟨⟨by decide +kernel, by decide +kernel⟩, List.mem_of_getElem? (i := 689) (by decide +kernel), List.mem_of_getElem? (i := 877) (by decide +kernel), List.mem_of_getElem? (i := 878) (by decide +kernel)⟩
theorem lw_p19 : lw_okq (⟨"ThirdAlikeModel", "isPerson", "(I)Z"⟩, 52) := ⟨⟨by decide +kernel, by decide +kernel⟩, List.mem_of_getElem? (i := 689) (by decide +kernel), List.mem_of_getElem? (i := 885) (by decide +kernel), List.mem_of_getElem? (i := 886) (by decide +kernel)⟩
theorem lw_p20 : lw_okq (⟨"ThirdAlikeModel", "goesText", "(I)Z"⟩, 52) := ⟨⟨by decide +kernel, by decide +kernel⟩, List.mem_of_getElem? (i := 689) (by decide +kernel), List.mem_of_getElem? (i := 897) (by decide +kernel), List.mem_of_getElem? (i := 898) (by decide +kernel)⟩
theorem lw_p21 : lw_okq (⟨"ThirdAlikeModel", "takesClause", "(I)Z"⟩, 52) := ⟨⟨by decide +kernel, by decide +kernel⟩, List.mem_of_getElem? (i := 689) (by decide +kernel), List.mem_of_getElem? (i := 901) (by decide +kernel), List.mem_of_getElem? (i := 902) (by decide +kernel)⟩
theorem lw_p22 : lw_okq (⟨"ThirdAlikeModel", "takesHead", "(I)Z"⟩, 52) := ⟨⟨by decide +kernel, by decide +kernel⟩, List.mem_of_getElem? (i := 689) (by decide +kernel), List.mem_of_getElem? (i := 905) (by decide +kernel), List.mem_of_getElem? (i := 906) (by decide +kernel)⟩
theorem lw_p23 : lw_okq (⟨"ThirdAlikeModel", "next", "()I"⟩, 52) := ⟨⟨by decide +kernel, by decide +kernel⟩, List.mem_of_getElem? (i := 689) (by decide +kernel), List.mem_of_getElem? (i := 909) (by decide +kernel), List.mem_of_getElem? (i := 910) (by decide +kernel)⟩
theorem lw_p24 : lw_okq (⟨"ThirdAlikeModel", "takesWord", "(II)Z"⟩, 52) := ⟨⟨by decide +kernel, by decide +kernel⟩, List.mem_of_getElem? (i := 689) (by decide +kernel), List.mem_of_getElem? (i := 913) (by decide +kernel), List.mem_of_getElem? (i := 914) (by decide +kernel)⟩
theorem lw_p25 : lw_okq (⟨"ThirdAlikeModel", "takes", "(I)Z"⟩, 52) := ⟨⟨by decide +kernel, by decide +kernel⟩, List.mem_of_getElem? (i := 689) (by decide +kernel), List.mem_of_getElem? (i := 917) (by decide +kernel), List.mem_of_getElem? (i := 918) (by decide +kernel)⟩
theorem lw_p26 : lw_okq (⟨"ThirdAlikeModel", "takesNumber", "()Z"⟩, 52) := ⟨⟨by decide +kernel, by decide +kernel⟩, List.mem_of_getElem? (i := 689) (by decide +kernel), List.mem_of_getElem? (i := 921) (by decide +kernel), List.mem_of_getElem? (i := 922) (by decide +kernel)⟩
theorem lw_p27 : lw_okq (⟨"ThirdAlikeModel", "isDigit", "()Z"⟩, 52) := ⟨⟨by decide +kernel, by decide +kernel⟩, List.mem_of_getElem? (i := 689) (by decide +kernel), List.mem_of_getElem? (i := 925) (by decide +kernel), List.mem_of_getElem? (i := 926) (by decide +kernel)⟩
theorem lw_p28 : lw_okq (⟨"ThirdAlikeModel", "takesE", "(I)Z"⟩, 52) := ⟨⟨by decide +kernel, by decide +kernel⟩, List.mem_of_getElem? (i := 689) (by decide +kernel), List.mem_of_getElem? (i := 929) (by decide +kernel), List.mem_of_getElem? (i := 930) (by decide +kernel)⟩
theorem lw_p29 : lw_okq (⟨"ThirdAlikeModel", "takesTest", "()Z"⟩, 52) := ⟨⟨by decide +kernel, by decide +kernel⟩, List.mem_of_getElem? (i := 689) (by decide +kernel), List.mem_of_getElem? (i := 933) (by decide +kernel), List.mem_of_getElem? (i := 934) (by decide +kernel)⟩
theorem lw_p30 : lw_okq (⟨"ThirdAlikeModel", "place", "(I)I"⟩, 52) := ⟨⟨by decide +kernel, by decide +kernel⟩, List.mem_of_getElem? (i := 689) (by decide +kernel), List.mem_of_getElem? (i := 937) (by decide +kernel), List.mem_of_getElem? (i := 938) (by decide +kernel)⟩
theorem lw_p31 : lw_okq (⟨"ThirdAlikeModel", "emits", "(I)V"⟩, 52) := ⟨⟨by decide +kernel, by decide +kernel⟩, List.mem_of_getElem? (i := 689) (by decide +kernel), List.mem_of_getElem? (i := 941) (by decide +kernel), List.mem_of_getElem? (i := 942) (by decide +kernel)⟩
def lw_privs_2 : List (MethodName × Nat) := [(⟨"ThirdAlikeModel", "in", "(III)Z"⟩, 52), (⟨"ThirdAlikeModel", "areNext", "(II)Z"⟩, 52), (⟨"ThirdAlikeModel", "whoIn", "(I)I"⟩, 52), (⟨"ThirdAlikeModel", "isPerson", "(I)Z"⟩, 52), (⟨"ThirdAlikeModel", "goesText", "(I)Z"⟩, 52), (⟨"ThirdAlikeModel", "takesClause", "(I)Z"⟩, 52), (⟨"ThirdAlikeModel", "takesHead", "(I)Z"⟩, 52), (⟨"ThirdAlikeModel", "next", "()I"⟩, 52), (⟨"ThirdAlikeModel", "takesWord", "(II)Z"⟩, 52), (⟨"ThirdAlikeModel", "takes", "(I)Z"⟩, 52), (⟨"ThirdAlikeModel", "takesNumber", "()Z"⟩, 52), (⟨"ThirdAlikeModel", "isDigit", "()Z"⟩, 52), (⟨"ThirdAlikeModel", "takesE", "(I)Z"⟩, 52), (⟨"ThirdAlikeModel", "takesTest", "()Z"⟩, 52), (⟨"ThirdAlikeModel", "place", "(I)I"⟩, 52), (⟨"ThirdAlikeModel", "emits", "(I)V"⟩, 52)]
theorem lw_r2 : ∀ q ∈ lw_privs_2, lw_okq q := List.forall_mem_cons.mpr ⟨lw_p16, List.forall_mem_cons.mpr ⟨lw_p17, List.forall_mem_cons.mpr ⟨lw_p18, List.forall_mem_cons.mpr ⟨lw_p19, List.forall_mem_cons.mpr ⟨lw_p20, List.forall_mem_cons.mpr ⟨lw_p21, List.forall_mem_cons.mpr ⟨lw_p22, List.forall_mem_cons.mpr ⟨lw_p23, List.forall_mem_cons.mpr ⟨lw_p24, List.forall_mem_cons.mpr ⟨lw_p25, List.forall_mem_cons.mpr ⟨lw_p26, List.forall_mem_cons.mpr ⟨lw_p27, List.forall_mem_cons.mpr ⟨lw_p28, List.forall_mem_cons.mpr ⟨lw_p29, List.forall_mem_cons.mpr ⟨lw_p30, List.forall_mem_cons.mpr ⟨lw_p31, fun _ h => absurd h List.not_mem_nil⟩⟩⟩⟩⟩⟩⟩⟩⟩⟩⟩⟩⟩⟩⟩⟩
theorem lw_p32 : lw_okq (⟨"ThirdAlikeModel", "whole", "()V"⟩, 52) := ⟨⟨by decide +kernel, by decide +kernel⟩, List.mem_of_getElem? (i := 689) (by decide +kernel), List.mem_of_getElem? (i := 945) (by decide +kernel), List.mem_of_getElem? (i := 946) (by decide +kernel)⟩
theorem lw_p33 : lw_okq (⟨"ThirdAlikeModel", "settle", "(I)V"⟩, 52) := ⟨⟨by decide +kernel, by decide +kernel⟩, List.mem_of_getElem? (i := 689) (by decide +kernel), List.mem_of_getElem? (i := 949) (by decide +kernel), List.mem_of_getElem? (i := 950) (by decide +kernel)⟩
theorem lw_p34 : lw_okq (⟨"ThirdAlikeModel", "beside", "(IIZ)I"⟩, 52) := ⟨⟨by decide +kernel, by decide +kernel⟩, List.mem_of_getElem? (i := 689) (by decide +kernel), List.mem_of_getElem? (i := 957) (by decide +kernel), List.mem_of_getElem? (i := 958) (by decide +kernel)⟩
theorem lw_p35 : lw_okq (⟨"ThirdAlikeModel", "wishOf", "(III)I"⟩, 52) := ⟨⟨by decide +kernel, by decide +kernel⟩, List.mem_of_getElem? (i := 689) (by decide +kernel), List.mem_of_getElem? (i := 961) (by decide +kernel), List.mem_of_getElem? (i := 962) (by decide +kernel)⟩
theorem lw_p36 : lw_okq (⟨"ThirdAlikeModel", "firstClause", "()I"⟩, 52) := ⟨⟨by decide +kernel, by decide +kernel⟩, List.mem_of_getElem? (i := 689) (by decide +kernel), List.mem_of_getElem? (i := 965) (by decide +kernel), List.mem_of_getElem? (i := 966) (by decide +kernel)⟩
theorem lw_p37 : lw_okq (⟨"ThirdAlikeModel", "behind", "()I"⟩, 52) := ⟨⟨by decide +kernel, by decide +kernel⟩, List.mem_of_getElem? (i := 689) (by decide +kernel), List.mem_of_getElem? (i := 969) (by decide +kernel), List.mem_of_getElem? (i := 970) (by decide +kernel)⟩
theorem lw_p38 : lw_okq (⟨"ThirdAlikeModel", "sumOf", "(IIII)I"⟩, 52) := ⟨⟨by decide +kernel, by decide +kernel⟩, List.mem_of_getElem? (i := 689) (by decide +kernel), List.mem_of_getElem? (i := 973) (by decide +kernel), List.mem_of_getElem? (i := 974) (by decide +kernel)⟩
theorem lw_p39 : lw_okq (⟨"ThirdAlikeModel", "isSo", "(IIII)Z"⟩, 52) := ⟨⟨by decide +kernel, by decide +kernel⟩, List.mem_of_getElem? (i := 689) (by decide +kernel), List.mem_of_getElem? (i := 977) (by decide +kernel), List.mem_of_getElem? (i := 978) (by decide +kernel)⟩
theorem lw_p40 : lw_okq (⟨"ThirdAlikeModel", "factOf", "(IIII)I"⟩, 52) := ⟨⟨by decide +kernel, by decide +kernel⟩, List.mem_of_getElem? (i := 689) (by decide +kernel), List.mem_of_getElem? (i := 981) (by decide +kernel), List.mem_of_getElem? (i := 982) (by decide +kernel)⟩
theorem lw_p41 : lw_okq (⟨"ThirdAlikeModel", "mostOf", "(III)I"⟩, 52) := ⟨⟨by decide +kernel, by decide +kernel⟩, List.mem_of_getElem? (i := 689) (by decide +kernel), List.mem_of_getElem? (i := 985) (by decide +kernel), List.mem_of_getElem? (i := 986) (by decide +kernel)⟩
theorem lw_p42 : lw_okq (⟨"ThirdAlikeModel", "isContent", "(I)Z"⟩, 52) := ⟨⟨by decide +kernel, by decide +kernel⟩, List.mem_of_getElem? (i := 689) (by decide +kernel), List.mem_of_getElem? (i := 989) (by decide +kernel), List.mem_of_getElem? (i := 990) (by decide +kernel)⟩
theorem lw_p43 : lw_okq (⟨"ThirdAlikeModel", "isContentIn", "(II)Z"⟩, 52) := ⟨⟨by decide +kernel, by decide +kernel⟩, List.mem_of_getElem? (i := 689) (by decide +kernel), List.mem_of_getElem? (i := 993) (by decide +kernel), List.mem_of_getElem? (i := 994) (by decide +kernel)⟩
theorem lw_p44 : lw_okq (⟨"ThirdAlikeModel", "goesTo", "(I)I"⟩, 52) := ⟨⟨by decide +kernel, by decide +kernel⟩, List.mem_of_getElem? (i := 689) (by decide +kernel), List.mem_of_getElem? (i := 997) (by decide +kernel), List.mem_of_getElem? (i := 998) (by decide +kernel)⟩
theorem lw_p45 : lw_okq (⟨"ThirdAlikeModel", "wanted", "(I)I"⟩, 52) := ⟨⟨by decide +kernel, by decide +kernel⟩, List.mem_of_getElem? (i := 689) (by decide +kernel), List.mem_of_getElem? (i := 1001) (by decide +kernel), List.mem_of_getElem? (i := 1002) (by decide +kernel)⟩
theorem lw_p46 : lw_okq (⟨"ThirdAlikeModel", "freeOnes", "()I"⟩, 52) := ⟨⟨by decide +kernel, by decide +kernel⟩, List.mem_of_getElem? (i := 689) (by decide +kernel), List.mem_of_getElem? (i := 1005) (by decide +kernel), List.mem_of_getElem? (i := 1006) (by decide +kernel)⟩
theorem lw_p47 : lw_okq (⟨"ThirdAlikeModel", "has", "(II)Z"⟩, 52) := ⟨⟨by decide +kernel, by decide +kernel⟩, List.mem_of_getElem? (i := 689) (by decide +kernel), List.mem_of_getElem? (i := 1009) (by decide +kernel), List.mem_of_getElem? (i := 1010) (by decide +kernel)⟩
def lw_privs_3 : List (MethodName × Nat) := [(⟨"ThirdAlikeModel", "whole", "()V"⟩, 52), (⟨"ThirdAlikeModel", "settle", "(I)V"⟩, 52), (⟨"ThirdAlikeModel", "beside", "(IIZ)I"⟩, 52), (⟨"ThirdAlikeModel", "wishOf", "(III)I"⟩, 52), (⟨"ThirdAlikeModel", "firstClause", "()I"⟩, 52), (⟨"ThirdAlikeModel", "behind", "()I"⟩, 52), (⟨"ThirdAlikeModel", "sumOf", "(IIII)I"⟩, 52), (⟨"ThirdAlikeModel", "isSo", "(IIII)Z"⟩, 52), (⟨"ThirdAlikeModel", "factOf", "(IIII)I"⟩, 52), (⟨"ThirdAlikeModel", "mostOf", "(III)I"⟩, 52), (⟨"ThirdAlikeModel", "isContent", "(I)Z"⟩, 52), (⟨"ThirdAlikeModel", "isContentIn", "(II)Z"⟩, 52), (⟨"ThirdAlikeModel", "goesTo", "(I)I"⟩, 52), (⟨"ThirdAlikeModel", "wanted", "(I)I"⟩, 52), (⟨"ThirdAlikeModel", "freeOnes", "()I"⟩, 52), (⟨"ThirdAlikeModel", "has", "(II)Z"⟩, 52)]
theorem lw_r3 : ∀ q ∈ lw_privs_3, lw_okq q := List.forall_mem_cons.mpr ⟨lw_p32, List.forall_mem_cons.mpr ⟨lw_p33, List.forall_mem_cons.mpr ⟨lw_p34, List.forall_mem_cons.mpr ⟨lw_p35, List.forall_mem_cons.mpr ⟨lw_p36, List.forall_mem_cons.mpr ⟨lw_p37, List.forall_mem_cons.mpr ⟨lw_p38, List.forall_mem_cons.mpr ⟨lw_p39, List.forall_mem_cons.mpr ⟨lw_p40, List.forall_mem_cons.mpr ⟨lw_p41, List.forall_mem_cons.mpr ⟨lw_p42, List.forall_mem_cons.mpr ⟨lw_p43, List.forall_mem_cons.mpr ⟨lw_p44, List.forall_mem_cons.mpr ⟨lw_p45, List.forall_mem_cons.mpr ⟨lw_p46, List.forall_mem_cons.mpr ⟨lw_p47, fun _ h => absurd h List.not_mem_nil⟩⟩⟩⟩⟩⟩⟩⟩⟩⟩⟩⟩⟩⟩⟩⟩
theorem lw_p48 : lw_okq (⟨"ThirdAlikeModel", "nearest", "(II)I"⟩, 52) := ⟨⟨by decide +kernel, by decide +kernel⟩, List.mem_of_getElem? (i := 689) (by decide +kernel), List.mem_of_getElem? (i := 1013) (by decide +kernel), List.mem_of_getElem? (i := 1014) (by decide +kernel)⟩
theorem lw_p49 : lw_okq (⟨"ThirdAlikeModel", "behindOwn", "(II)I"⟩, 52) := ⟨⟨by decide +kernel, by decide +kernel⟩, List.mem_of_getElem? (i := 689) (by decide +kernel), List.mem_of_getElem? (i := 1017) (by decide +kernel), List.mem_of_getElem? (i := 1018) (by decide +kernel)⟩
theorem lw_p50 : lw_okq (⟨"ThirdAlikeModel", "swapsTo", "(I)I"⟩, 52) := ⟨⟨by decide +kernel, by decide +kernel⟩, List.mem_of_getElem? (i := 689) (by decide +kernel), List.mem_of_getElem? (i := 1021) (by decide +kernel), List.mem_of_getElem? (i := 1022) (by decide +kernel)⟩
theorem lw_p51 : lw_okq (⟨"ThirdAlikeModel", "partner", "(I)I"⟩, 52) := ⟨⟨by decide +kernel, by decide +kernel⟩, List.mem_of_getElem? (i := 689) (by decide +kernel), List.mem_of_getElem? (i := 1025) (by decide +kernel), List.mem_of_getElem? (i := 1026) (by decide +kernel)⟩
theorem lw_p52 : lw_okq (⟨"ThirdAlikeModel", "changes", "(II)V"⟩, 52) := ⟨⟨by decide +kernel, by decide +kernel⟩, List.mem_of_getElem? (i := 689) (by decide +kernel), List.mem_of_getElem? (i := 1029) (by decide +kernel), List.mem_of_getElem? (i := 1030) (by decide +kernel)⟩
theorem lw_p53 : lw_okq (⟨"ThirdAlikeModel", "leastOf", "(I)I"⟩, 52) := ⟨⟨by decide +kernel, by decide +kernel⟩, List.mem_of_getElem? (i := 689) (by decide +kernel), List.mem_of_getElem? (i := 1033) (by decide +kernel), List.mem_of_getElem? (i := 1034) (by decide +kernel)⟩
theorem lw_p54 : lw_okq (⟨"ThirdAlikeModel", "cheap", "(II)I"⟩, 52) := ⟨⟨by decide +kernel, by decide +kernel⟩, List.mem_of_getElem? (i := 689) (by decide +kernel), List.mem_of_getElem? (i := 1037) (by decide +kernel), List.mem_of_getElem? (i := 1038) (by decide +kernel)⟩
theorem lw_p55 : lw_okq (⟨"ThirdAlikeModel", "pairs", "(Z)I"⟩, 52) := ⟨⟨by decide +kernel, by decide +kernel⟩, List.mem_of_getElem? (i := 689) (by decide +kernel), List.mem_of_getElem? (i := 1045) (by decide +kernel), List.mem_of_getElem? (i := 1046) (by decide +kernel)⟩
theorem lw_p56 : lw_okq (⟨"ThirdAlikeModel", "happy", "()I"⟩, 52) := ⟨⟨by decide +kernel, by decide +kernel⟩, List.mem_of_getElem? (i := 689) (by decide +kernel), List.mem_of_getElem? (i := 1049) (by decide +kernel), List.mem_of_getElem? (i := 1050) (by decide +kernel)⟩
theorem lw_p57 : lw_okq (⟨"ThirdAlikeModel", "goMove", "()I"⟩, 52) := ⟨⟨by decide +kernel, by decide +kernel⟩, List.mem_of_getElem? (i := 689) (by decide +kernel), List.mem_of_getElem? (i := 1057) (by decide +kernel), List.mem_of_getElem? (i := 1058) (by decide +kernel)⟩
theorem lw_p58 : lw_okq (⟨"ThirdAlikeModel", "keep", "()V"⟩, 52) := ⟨⟨by decide +kernel, by decide +kernel⟩, List.mem_of_getElem? (i := 689) (by decide +kernel), List.mem_of_getElem? (i := 1065) (by decide +kernel), List.mem_of_getElem? (i := 1066) (by decide +kernel)⟩
theorem lw_p59 : lw_okq (⟨"ThirdAlikeModel", "goMoves", "(I)I"⟩, 52) := ⟨⟨by decide +kernel, by decide +kernel⟩, List.mem_of_getElem? (i := 689) (by decide +kernel), List.mem_of_getElem? (i := 1069) (by decide +kernel), List.mem_of_getElem? (i := 1070) (by decide +kernel)⟩
theorem lw_p60 : lw_okq (⟨"ThirdAlikeModel", "putBack", "()V"⟩, 52) := ⟨⟨by decide +kernel, by decide +kernel⟩, List.mem_of_getElem? (i := 689) (by decide +kernel), List.mem_of_getElem? (i := 1073) (by decide +kernel), List.mem_of_getElem? (i := 1074) (by decide +kernel)⟩
theorem lw_p61 : lw_okq (⟨"ThirdAlikeModel", "areKept", "()Z"⟩, 52) := ⟨⟨by decide +kernel, by decide +kernel⟩, List.mem_of_getElem? (i := 689) (by decide +kernel), List.mem_of_getElem? (i := 1085) (by decide +kernel), List.mem_of_getElem? (i := 1086) (by decide +kernel)⟩
theorem lw_p62 : lw_okq (⟨"ThirdAlikeModel", "layWays", "()V"⟩, 52) := ⟨⟨by decide +kernel, by decide +kernel⟩, List.mem_of_getElem? (i := 689) (by decide +kernel), List.mem_of_getElem? (i := 1093) (by decide +kernel), List.mem_of_getElem? (i := 1094) (by decide +kernel)⟩
theorem lw_p63 : lw_okq (⟨"ThirdAlikeModel", "areUnlike", "()Z"⟩, 52) := ⟨⟨by decide +kernel, by decide +kernel⟩, List.mem_of_getElem? (i := 689) (by decide +kernel), List.mem_of_getElem? (i := 1097) (by decide +kernel), List.mem_of_getElem? (i := 1098) (by decide +kernel)⟩
def lw_privs_4 : List (MethodName × Nat) := [(⟨"ThirdAlikeModel", "nearest", "(II)I"⟩, 52), (⟨"ThirdAlikeModel", "behindOwn", "(II)I"⟩, 52), (⟨"ThirdAlikeModel", "swapsTo", "(I)I"⟩, 52), (⟨"ThirdAlikeModel", "partner", "(I)I"⟩, 52), (⟨"ThirdAlikeModel", "changes", "(II)V"⟩, 52), (⟨"ThirdAlikeModel", "leastOf", "(I)I"⟩, 52), (⟨"ThirdAlikeModel", "cheap", "(II)I"⟩, 52), (⟨"ThirdAlikeModel", "pairs", "(Z)I"⟩, 52), (⟨"ThirdAlikeModel", "happy", "()I"⟩, 52), (⟨"ThirdAlikeModel", "goMove", "()I"⟩, 52), (⟨"ThirdAlikeModel", "keep", "()V"⟩, 52), (⟨"ThirdAlikeModel", "goMoves", "(I)I"⟩, 52), (⟨"ThirdAlikeModel", "putBack", "()V"⟩, 52), (⟨"ThirdAlikeModel", "areKept", "()Z"⟩, 52), (⟨"ThirdAlikeModel", "layWays", "()V"⟩, 52), (⟨"ThirdAlikeModel", "areUnlike", "()Z"⟩, 52)]
theorem lw_r4 : ∀ q ∈ lw_privs_4, lw_okq q := List.forall_mem_cons.mpr ⟨lw_p48, List.forall_mem_cons.mpr ⟨lw_p49, List.forall_mem_cons.mpr ⟨lw_p50, List.forall_mem_cons.mpr ⟨lw_p51, List.forall_mem_cons.mpr ⟨lw_p52, List.forall_mem_cons.mpr ⟨lw_p53, List.forall_mem_cons.mpr ⟨lw_p54, List.forall_mem_cons.mpr ⟨lw_p55, List.forall_mem_cons.mpr ⟨lw_p56, List.forall_mem_cons.mpr ⟨lw_p57, List.forall_mem_cons.mpr ⟨lw_p58, List.forall_mem_cons.mpr ⟨lw_p59, List.forall_mem_cons.mpr ⟨lw_p60, List.forall_mem_cons.mpr ⟨lw_p61, List.forall_mem_cons.mpr ⟨lw_p62, List.forall_mem_cons.mpr ⟨lw_p63, fun _ h => absurd h List.not_mem_nil⟩⟩⟩⟩⟩⟩⟩⟩⟩⟩⟩⟩⟩⟩⟩⟩
theorem lw_p64 : lw_okq (⟨"ThirdAlikeModel", "areAll", "()Z"⟩, 52) := ⟨⟨by decide +kernel, by decide +kernel⟩, List.mem_of_getElem? (i := 689) (by decide +kernel), List.mem_of_getElem? (i := 1101) (by decide +kernel), List.mem_of_getElem? (i := 1102) (by decide +kernel)⟩
theorem lw_p65 : lw_okq (⟨"ThirdAlikeModel", "takeWay", "()V"⟩, 52) := ⟨⟨by decide +kernel, by decide +kernel⟩, List.mem_of_getElem? (i := 689) (by decide +kernel), List.mem_of_getElem? (i := 1105) (by decide +kernel), List.mem_of_getElem? (i := 1106) (by decide +kernel)⟩
theorem lw_p66 : lw_okq (⟨"ThirdAlikeModel", "nextWay", "()Z"⟩, 52) := ⟨⟨by decide +kernel, by decide +kernel⟩, List.mem_of_getElem? (i := 689) (by decide +kernel), List.mem_of_getElem? (i := 1109) (by decide +kernel), List.mem_of_getElem? (i := 1110) (by decide +kernel)⟩
theorem lw_p67 : lw_okq (⟨"ThirdAlikeModel", "isHeldBy", "(II)Z"⟩, 52) := ⟨⟨by decide +kernel, by decide +kernel⟩, List.mem_of_getElem? (i := 689) (by decide +kernel), List.mem_of_getElem? (i := 1129) (by decide +kernel), List.mem_of_getElem? (i := 1130) (by decide +kernel)⟩
theorem lw_p68 : lw_okq (⟨"ThirdAlikeModel", "leadsHere", "(II)Z"⟩, 52) := ⟨⟨by decide +kernel, by decide +kernel⟩, List.mem_of_getElem? (i := 689) (by decide +kernel), List.mem_of_getElem? (i := 1137) (by decide +kernel), List.mem_of_getElem? (i := 1138) (by decide +kernel)⟩
theorem lw_p69 : lw_okq (⟨"ThirdAlikeModel", "ones", "(I)I"⟩, 52) := ⟨⟨by decide +kernel, by decide +kernel⟩, List.mem_of_getElem? (i := 689) (by decide +kernel), List.mem_of_getElem? (i := 1146) (by decide +kernel), List.mem_of_getElem? (i := 1147) (by decide +kernel)⟩
theorem lw_p70 : lw_okq (⟨"ThirdAlikeModel", "goodOnes", "()I"⟩, 52) := ⟨⟨by decide +kernel, by decide +kernel⟩, List.mem_of_getElem? (i := 689) (by decide +kernel), List.mem_of_getElem? (i := 1150) (by decide +kernel), List.mem_of_getElem? (i := 1151) (by decide +kernel)⟩
theorem lw_p71 : lw_okq (⟨"ThirdAlikeModel", "lowest", "(III)J"⟩, 52) := ⟨⟨by decide +kernel, by decide +kernel⟩, List.mem_of_getElem? (i := 689) (by decide +kernel), List.mem_of_getElem? (i := 1154) (by decide +kernel), List.mem_of_getElem? (i := 1155) (by decide +kernel)⟩
theorem lw_p72 : lw_okq (⟨"ThirdAlikeModel", "divisor", "(II)I"⟩, 52) := ⟨⟨by decide +kernel, by decide +kernel⟩, List.mem_of_getElem? (i := 689) (by decide +kernel), List.mem_of_getElem? (i := 1158) (by decide +kernel), List.mem_of_getElem? (i := 1159) (by decide +kernel)⟩
theorem lw_p73 : lw_okq (⟨"ThirdAlikeModel", "goodTwos", "()I"⟩, 52) := ⟨⟨by decide +kernel, by decide +kernel⟩, List.mem_of_getElem? (i := 689) (by decide +kernel), List.mem_of_getElem? (i := 1162) (by decide +kernel), List.mem_of_getElem? (i := 1163) (by decide +kernel)⟩
theorem lw_p74 : lw_okq (⟨"ThirdAlikeModel", "isTape", "(I)Z"⟩, 52) := ⟨⟨by decide +kernel, by decide +kernel⟩, List.mem_of_getElem? (i := 689) (by decide +kernel), List.mem_of_getElem? (i := 1182) (by decide +kernel), List.mem_of_getElem? (i := 1183) (by decide +kernel)⟩
theorem lw_p75 : lw_okq (⟨"ThirdAlikeModel", "looksAct", "(II)I"⟩, 52) := ⟨⟨by decide +kernel, by decide +kernel⟩, List.mem_of_getElem? (i := 689) (by decide +kernel), List.mem_of_getElem? (i := 1198) (by decide +kernel), List.mem_of_getElem? (i := 1199) (by decide +kernel)⟩
theorem lw_p76 : lw_okq (⟨"ThirdAlikeModel", "body", "(I)V"⟩, 52) := ⟨⟨by decide +kernel, by decide +kernel⟩, List.mem_of_getElem? (i := 689) (by decide +kernel), List.mem_of_getElem? (i := 1202) (by decide +kernel), List.mem_of_getElem? (i := 1203) (by decide +kernel)⟩
theorem lw_p77 : lw_okq (⟨"ThirdAlikeModel", "moverLooks", "(II)I"⟩, 52) := ⟨⟨by decide +kernel, by decide +kernel⟩, List.mem_of_getElem? (i := 689) (by decide +kernel), List.mem_of_getElem? (i := 1206) (by decide +kernel), List.mem_of_getElem? (i := 1207) (by decide +kernel)⟩
theorem lw_p78 : lw_okq (⟨"ThirdAlikeModel", "goesAct", "(II)I"⟩, 52) := ⟨⟨by decide +kernel, by decide +kernel⟩, List.mem_of_getElem? (i := 689) (by decide +kernel), List.mem_of_getElem? (i := 1210) (by decide +kernel), List.mem_of_getElem? (i := 1211) (by decide +kernel)⟩
theorem lw_p79 : lw_okq (⟨"ThirdAlikeModel", "nearGoes", "(II)I"⟩, 52) := ⟨⟨by decide +kernel, by decide +kernel⟩, List.mem_of_getElem? (i := 689) (by decide +kernel), List.mem_of_getElem? (i := 1214) (by decide +kernel), List.mem_of_getElem? (i := 1215) (by decide +kernel)⟩
def lw_privs_5 : List (MethodName × Nat) := [(⟨"ThirdAlikeModel", "areAll", "()Z"⟩, 52), (⟨"ThirdAlikeModel", "takeWay", "()V"⟩, 52), (⟨"ThirdAlikeModel", "nextWay", "()Z"⟩, 52), (⟨"ThirdAlikeModel", "isHeldBy", "(II)Z"⟩, 52), (⟨"ThirdAlikeModel", "leadsHere", "(II)Z"⟩, 52), (⟨"ThirdAlikeModel", "ones", "(I)I"⟩, 52), (⟨"ThirdAlikeModel", "goodOnes", "()I"⟩, 52), (⟨"ThirdAlikeModel", "lowest", "(III)J"⟩, 52), (⟨"ThirdAlikeModel", "divisor", "(II)I"⟩, 52), (⟨"ThirdAlikeModel", "goodTwos", "()I"⟩, 52), (⟨"ThirdAlikeModel", "isTape", "(I)Z"⟩, 52), (⟨"ThirdAlikeModel", "looksAct", "(II)I"⟩, 52), (⟨"ThirdAlikeModel", "body", "(I)V"⟩, 52), (⟨"ThirdAlikeModel", "moverLooks", "(II)I"⟩, 52), (⟨"ThirdAlikeModel", "goesAct", "(II)I"⟩, 52), (⟨"ThirdAlikeModel", "nearGoes", "(II)I"⟩, 52)]
theorem lw_r5 : ∀ q ∈ lw_privs_5, lw_okq q := List.forall_mem_cons.mpr ⟨lw_p64, List.forall_mem_cons.mpr ⟨lw_p65, List.forall_mem_cons.mpr ⟨lw_p66, List.forall_mem_cons.mpr ⟨lw_p67, List.forall_mem_cons.mpr ⟨lw_p68, List.forall_mem_cons.mpr ⟨lw_p69, List.forall_mem_cons.mpr ⟨lw_p70, List.forall_mem_cons.mpr ⟨lw_p71, List.forall_mem_cons.mpr ⟨lw_p72, List.forall_mem_cons.mpr ⟨lw_p73, List.forall_mem_cons.mpr ⟨lw_p74, List.forall_mem_cons.mpr ⟨lw_p75, List.forall_mem_cons.mpr ⟨lw_p76, List.forall_mem_cons.mpr ⟨lw_p77, List.forall_mem_cons.mpr ⟨lw_p78, List.forall_mem_cons.mpr ⟨lw_p79, fun _ h => absurd h List.not_mem_nil⟩⟩⟩⟩⟩⟩⟩⟩⟩⟩⟩⟩⟩⟩⟩⟩
theorem lw_p80 : lw_okq (⟨"ThirdAlikeModel", "moverGoes", "(II)I"⟩, 52) := ⟨⟨by decide +kernel, by decide +kernel⟩, List.mem_of_getElem? (i := 689) (by decide +kernel), List.mem_of_getElem? (i := 1218) (by decide +kernel), List.mem_of_getElem? (i := 1219) (by decide +kernel)⟩
theorem lw_p81 : lw_okq (⟨"ThirdAlikeModel", "tellsAct", "(II)I"⟩, 52) := ⟨⟨by decide +kernel, by decide +kernel⟩, List.mem_of_getElem? (i := 689) (by decide +kernel), List.mem_of_getElem? (i := 1222) (by decide +kernel), List.mem_of_getElem? (i := 1223) (by decide +kernel)⟩
theorem lw_p82 : lw_okq (⟨"ThirdAlikeModel", "moverTells", "(II)I"⟩, 52) := ⟨⟨by decide +kernel, by decide +kernel⟩, List.mem_of_getElem? (i := 689) (by decide +kernel), List.mem_of_getElem? (i := 1226) (by decide +kernel), List.mem_of_getElem? (i := 1227) (by decide +kernel)⟩
theorem lw_p83 : lw_okq (⟨"ThirdAlikeModel", "narrow", "(IJ)J"⟩, 52) := ⟨⟨by decide +kernel, by decide +kernel⟩, List.mem_of_getElem? (i := 689) (by decide +kernel), List.mem_of_getElem? (i := 1250) (by decide +kernel), List.mem_of_getElem? (i := 1251) (by decide +kernel)⟩
def lw_privs_6 : List (MethodName × Nat) := [(⟨"ThirdAlikeModel", "moverGoes", "(II)I"⟩, 52), (⟨"ThirdAlikeModel", "tellsAct", "(II)I"⟩, 52), (⟨"ThirdAlikeModel", "moverTells", "(II)I"⟩, 52), (⟨"ThirdAlikeModel", "narrow", "(IJ)J"⟩, 52)]
theorem lw_r6 : ∀ q ∈ lw_privs_6, lw_okq q := List.forall_mem_cons.mpr ⟨lw_p80, List.forall_mem_cons.mpr ⟨lw_p81, List.forall_mem_cons.mpr ⟨lw_p82, List.forall_mem_cons.mpr ⟨lw_p83, fun _ h => absurd h List.not_mem_nil⟩⟩⟩⟩
def lw_privs : List (MethodName × Nat) := lw_privs_1 ++ (lw_privs_2 ++ (lw_privs_3 ++ (lw_privs_4 ++ (lw_privs_5 ++ (lw_privs_6)))))
def lw_tbl : List Cond := k2_sels lw_privs ++ tables_1
theorem lw_privs_ok : ∀ q ∈ lw_privs, lw_okq q := by
  show ∀ q ∈ lw_privs_1 ++ (lw_privs_2 ++ (lw_privs_3 ++ (lw_privs_4 ++ (lw_privs_5 ++ (lw_privs_6))))), lw_okq q
  exact List.forall_mem_append.mpr ⟨lw_r1, List.forall_mem_append.mpr ⟨lw_r2, List.forall_mem_append.mpr ⟨lw_r3, List.forall_mem_append.mpr ⟨lw_r4, List.forall_mem_append.mpr ⟨lw_r5, lw_r6⟩⟩⟩⟩⟩
-- ===== end of PART A; then your names; then what follows =====
end
section
def RX0 : String := "ThirdAlike$Actor"
def TX0 : u_T := fun k => match k with
  | 0 => ("ThirdAlike$Actor", "kind", "I", false)
  | 1 => ("ThirdAlike$Actor", "v", "I", false)
  | 2 => ("ThirdAlike$Actor", "who", "I", false)
  | 3 => ("ThirdAlike$Actor", "ran", "I", false)
  | _ => ("ThirdAlike$Actor", "bodies", "[I", true)
def tyX0 : Nat → FieldType := fun k => match k with
  | 0 => .int
  | 1 => .int
  | 2 => .int
  | 3 => .int
  | _ => .array .int
theorem nmX0 : ∀ a, a < 5 → ∀ b, b < 5 → a ≠ b → (TX0 a).2.1 ≠ (TX0 b).2.1 := by decide +kernel
theorem tyX0_ok : ∀ k, k < 5 → parseFieldDescriptor (TX0 k).2.2.1 = some (tyX0 k) := by decide +kernel
abbrev cX0_init : ByteArray := prog_2_method_1_code
def yX0_init : MethodName := ⟨RX0, "<init>", "()V"⟩
abbrev cX0_begin : ByteArray := prog_2_method_2_code
def yX0_begin : MethodName := ⟨RX0, "begin", "(I)V"⟩
abbrev cX0_looks : ByteArray := prog_2_method_3_code
def yX0_looks : MethodName := ⟨RX0, "looks", "(LThirdAlike$Actor;II)I"⟩
abbrev cX0_goes : ByteArray := prog_2_method_4_code
def yX0_goes : MethodName := ⟨RX0, "goes", "(LThirdAlike$Actor;II)I"⟩
abbrev cX0_tells : ByteArray := prog_2_method_5_code
def yX0_tells : MethodName := ⟨RX0, "tells", "(LThirdAlike$Actor;II)I"⟩
def RX1 : String := "ThirdAlike$Life"
def TX1 : u_T := fun k => match k with
  | 0 => ("ThirdAlike$Life", "all", "LThirdAlike$State;", true)
  | 1 => ("ThirdAlike$Life", "wishForAll", "I", false)
  | 2 => ("ThirdAlike$Life", "facts", "[I", true)
  | 3 => ("ThirdAlike$Life", "others", "I", false)
  | 4 => ("ThirdAlike$Life", "alike", "I", false)
  | 5 => ("ThirdAlike$Life", "weights", "I", false)
  | 6 => ("ThirdAlike$Life", "known", "[I", true)
  | 7 => ("ThirdAlike$Life", "knownSince", "[I", true)
  | _ => ("ThirdAlike$Life", "since", "I", false)
def tyX1 : Nat → FieldType := fun k => match k with
  | 0 => .object "ThirdAlike$State"
  | 1 => .int
  | 2 => .array .int
  | 3 => .int
  | 4 => .int
  | 5 => .int
  | 6 => .array .int
  | 7 => .array .int
  | _ => .int
theorem nmX1 : ∀ a, a < 9 → ∀ b, b < 9 → a ≠ b → (TX1 a).2.1 ≠ (TX1 b).2.1 := by decide +kernel
theorem tyX1_ok : ∀ k, k < 9 → parseFieldDescriptor (TX1 k).2.2.1 = some (tyX1 k) := by decide +kernel
abbrev cX1_init : ByteArray := prog_3_method_1_code
def yX1_init : MethodName := ⟨RX1, "<init>", "(LThirdAlike$Street;)V"⟩
abbrev cX1_startFrom : ByteArray := prog_3_method_2_code
def yX1_startFrom : MethodName := ⟨RX1, "startFrom", "(LThirdAlike$State;)V"⟩
abbrev cX1_weigh : ByteArray := prog_3_method_3_code
def yX1_weigh : MethodName := ⟨RX1, "weigh", "(II)V"⟩
abbrev cX1_weightOf : ByteArray := prog_3_method_4_code
def yX1_weightOf : MethodName := ⟨RX1, "weightOf", "(II)I"⟩
abbrev cX1_suits : ByteArray := prog_3_method_5_code
def yX1_suits : MethodName := ⟨RX1, "suits", "(II)Z"⟩
abbrev cX1_allSuit : ByteArray := prog_3_method_6_code
def yX1_allSuit : MethodName := ⟨RX1, "allSuit", "()Z"⟩
abbrev cX1_happy : ByteArray := prog_3_method_7_code
def yX1_happy : MethodName := ⟨RX1, "happy", "()I"⟩
abbrev cX1_goesTo : ByteArray := prog_3_method_8_code
def yX1_goesTo : MethodName := ⟨RX1, "goesTo", "(I)I"⟩
abbrev cX1_least : ByteArray := prog_3_method_9_code
def yX1_least : MethodName := ⟨RX1, "least", "(I)I"⟩
abbrev cX1_nearest : ByteArray := prog_3_method_10_code
def yX1_nearest : MethodName := ⟨RX1, "nearest", "(II)I"⟩
abbrev cX1_nextBehind : ByteArray := prog_3_method_11_code
def yX1_nextBehind : MethodName := ⟨RX1, "nextBehind", "(I)I"⟩
abbrev cX1_partnerOf : ByteArray := prog_3_method_12_code
def yX1_partnerOf : MethodName := ⟨RX1, "partnerOf", "(I)I"⟩
abbrev cX1_changeHouses : ByteArray := prog_3_method_13_code
def yX1_changeHouses : MethodName := ⟨RX1, "changeHouses", "(II)V"⟩
abbrev cX1_step : ByteArray := prog_3_method_14_code
def yX1_step : MethodName := ⟨RX1, "step", "()I"⟩
abbrev cX1_contentBehind : ByteArray := prog_3_method_15_code
def yX1_contentBehind : MethodName := ⟨RX1, "contentBehind", "(LThirdAlike$Life;I)I"⟩
def RX2 : String := "ThirdAlike$State"
def TX2 : u_T := fun k => match k with
  | 0 => ("ThirdAlike$State", "houses", "I", false)
  | 1 => ("ThirdAlike$State", "shape", "I", false)
  | 2 => ("ThirdAlike$State", "around", "[I", true)
  | 3 => ("ThirdAlike$State", "people", "I", false)
  | 4 => ("ThirdAlike$State", "kind", "[I", true)
  | 5 => ("ThirdAlike$State", "v", "[I", true)
  | 6 => ("ThirdAlike$State", "sort", "[I", true)
  | 7 => ("ThirdAlike$State", "house", "[I", true)
  | 8 => ("ThirdAlike$State", "moves", "I", false)
  | 9 => ("ThirdAlike$State", "booked", "[I", true)
  | 10 => ("ThirdAlike$State", "bookedCount", "I", false)
  | _ => ("ThirdAlike$State", "holding", "LThirdAlike$Street;", false)
def tyX2 : Nat → FieldType := fun k => match k with
  | 0 => .int
  | 1 => .int
  | 2 => .array .int
  | 3 => .int
  | 4 => .array .int
  | 5 => .array .int
  | 6 => .array .int
  | 7 => .array .int
  | 8 => .int
  | 9 => .array .int
  | 10 => .int
  | _ => .object "ThirdAlike$Street"
theorem nmX2 : ∀ a, a < 12 → ∀ b, b < 12 → a ≠ b → (TX2 a).2.1 ≠ (TX2 b).2.1 := by decide +kernel
theorem tyX2_ok : ∀ k, k < 12 → parseFieldDescriptor (TX2 k).2.2.1 = some (tyX2 k) := by decide +kernel
abbrev cX2_init : ByteArray := prog_4_method_1_code
def yX2_init : MethodName := ⟨RX2, "<init>", "(LThirdAlike$Street;)V"⟩
abbrev cX2_layOut : ByteArray := prog_4_method_2_code
def yX2_layOut : MethodName := ⟨RX2, "layOut", "(II)V"⟩
abbrev cX2_areNeighbours : ByteArray := prog_4_method_3_code
def yX2_areNeighbours : MethodName := ⟨RX2, "areNeighbours", "(II)Z"⟩
abbrev cX2_settle : ByteArray := prog_4_method_4_code
def yX2_settle : MethodName := ⟨RX2, "settle", "(IIII)I"⟩
abbrev cX2_whoIn : ByteArray := prog_4_method_5_code
def yX2_whoIn : MethodName := ⟨RX2, "whoIn", "(I)I"⟩
abbrev cX2_freeHouses : ByteArray := prog_4_method_6_code
def yX2_freeHouses : MethodName := ⟨RX2, "freeHouses", "()I"⟩
abbrev cX2_livesBeside : ByteArray := prog_4_method_7_code
def yX2_livesBeside : MethodName := ⟨RX2, "livesBeside", "(II)Z"⟩
abbrev cX2_likePairs : ByteArray := prog_4_method_8_code
def yX2_likePairs : MethodName := ⟨RX2, "likePairs", "()I"⟩
abbrev cX2_likePairsBelow : ByteArray := prog_4_method_9_code
def yX2_likePairsBelow : MethodName := ⟨RX2, "likePairsBelow", "(I)I"⟩
abbrev cX2_allPairs : ByteArray := prog_4_method_10_code
def yX2_allPairs : MethodName := ⟨RX2, "allPairs", "()I"⟩
abbrev cX2_isLivedInAs : ByteArray := prog_4_method_11_code
def yX2_isLivedInAs : MethodName := ⟨RX2, "isLivedInAs", "(LThirdAlike$State;)Z"⟩
abbrev cX2_copyFrom : ByteArray := prog_4_method_12_code
def yX2_copyFrom : MethodName := ⟨RX2, "copyFrom", "(LThirdAlike$State;)V"⟩
def RX3 : String := "ThirdAlike$Street"
def TX3 : u_T := fun k => match k with
  | 0 => ("ThirdAlike$Street", "steps", "[I", true)
  | 1 => ("ThirdAlike$Street", "length", "I", false)
  | _ => ("ThirdAlike$Street", "hasWishes", "Z", false)
def tyX3 : Nat → FieldType := fun k => match k with
  | 0 => .array .int
  | 1 => .int
  | _ => .boolean
theorem nmX3 : ∀ a, a < 3 → ∀ b, b < 3 → a ≠ b → (TX3 a).2.1 ≠ (TX3 b).2.1 := by decide +kernel
theorem tyX3_ok : ∀ k, k < 3 → parseFieldDescriptor (TX3 k).2.2.1 = some (tyX3 k) := by decide +kernel
abbrev cX3_init : ByteArray := prog_5_method_1_code
def yX3_init : MethodName := ⟨RX3, "<init>", "()V"⟩
abbrev cX3_clear : ByteArray := prog_5_method_2_code
def yX3_clear : MethodName := ⟨RX3, "clear", "()V"⟩
abbrev cX3_add : ByteArray := prog_5_method_3_code
def yX3_add : MethodName := ⟨RX3, "add", "(II)V"⟩
abbrev cX3_weigh : ByteArray := prog_5_method_4_code
def yX3_weigh : MethodName := ⟨RX3, "weigh", "([I[II)V"⟩
def RX4 : String := "ThirdAlike$Tape"
def TX4 : u_T := fun k => match k with
  | 0 => ("ThirdAlike$Tape", "sort", "I", false)
  | 1 => ("ThirdAlike$Tape", "length", "I", false)
  | _ => ("ThirdAlike$Tape", "items", "[J", true)
def tyX4 : Nat → FieldType := fun k => match k with
  | 0 => .int
  | 1 => .int
  | _ => .array .long
theorem nmX4 : ∀ a, a < 3 → ∀ b, b < 3 → a ≠ b → (TX4 a).2.1 ≠ (TX4 b).2.1 := by decide +kernel
theorem tyX4_ok : ∀ k, k < 3 → parseFieldDescriptor (TX4 k).2.2.1 = some (tyX4 k) := by decide +kernel
abbrev cX4_init : ByteArray := prog_6_method_1_code
def yX4_init : MethodName := ⟨RX4, "<init>", "()V"⟩
abbrev cX4_isThere : ByteArray := prog_6_method_2_code
def yX4_isThere : MethodName := ⟨RX4, "isThere", "()Z"⟩
abbrev cX4_become : ByteArray := prog_6_method_3_code
def yX4_become : MethodName := ⟨RX4, "become", "(II)V"⟩
abbrev cX4_has : ByteArray := prog_6_method_4_code
def yX4_has : MethodName := ⟨RX4, "has", "(II)Z"⟩
abbrev cX4_cut : ByteArray := prog_6_method_5_code
def yX4_cut : MethodName := ⟨RX4, "cut", "(J)J"⟩
def RX5 : String := "ThirdAlike$Text"
def TX5 : u_T := fun k => match k with
  | 0 => ("ThirdAlike$Text", "length", "I", false)
  | 1 => ("ThirdAlike$Text", "signs", "[B", true)
  | 2 => ("ThirdAlike$Text", "target", "LThirdAlike$Street;", false)
  | 3 => ("ThirdAlike$Text", "at", "I", false)
  | 4 => ("ThirdAlike$Text", "sign", "I", false)
  | _ => ("ThirdAlike$Text", "faulty", "Z", false)
def tyX5 : Nat → FieldType := fun k => match k with
  | 0 => .int
  | 1 => .array .byte
  | 2 => .object "ThirdAlike$Street"
  | 3 => .int
  | 4 => .int
  | _ => .boolean
theorem nmX5 : ∀ a, a < 6 → ∀ b, b < 6 → a ≠ b → (TX5 a).2.1 ≠ (TX5 b).2.1 := by decide +kernel
theorem tyX5_ok : ∀ k, k < 6 → parseFieldDescriptor (TX5 k).2.2.1 = some (tyX5 k) := by decide +kernel
abbrev cX5_init : ByteArray := prog_7_method_1_code
def yX5_init : MethodName := ⟨RX5, "<init>", "()V"⟩
abbrev cX5_append : ByteArray := prog_7_method_2_code
def yX5_append : MethodName := ⟨RX5, "append", "(I)Z"⟩
abbrev cX5_parseInto : ByteArray := prog_7_method_3_code
def yX5_parseInto : MethodName := ⟨RX5, "parseInto", "(LThirdAlike$Street;)I"⟩
abbrev cX5_lookAt : ByteArray := prog_7_method_4_code
def yX5_lookAt : MethodName := ⟨RX5, "lookAt", "(I)V"⟩
abbrev cX5_expect : ByteArray := prog_7_method_5_code
def yX5_expect : MethodName := ⟨RX5, "expect", "(I)V"⟩
abbrev cX5_readClause : ByteArray := prog_7_method_6_code
def yX5_readClause : MethodName := ⟨RX5, "readClause", "()V"⟩
abbrev cX5_readNumber : ByteArray := prog_7_method_7_code
def yX5_readNumber : MethodName := ⟨RX5, "readNumber", "()I"⟩
abbrev cX5_readEither : ByteArray := prog_7_method_8_code
def yX5_readEither : MethodName := ⟨RX5, "readEither", "(LThirdAlike$Text;I)V"⟩
abbrev cX5_readBoth : ByteArray := prog_7_method_9_code
def yX5_readBoth : MethodName := ⟨RX5, "readBoth", "(LThirdAlike$Text;I)V"⟩
abbrev cX5_readPart : ByteArray := prog_7_method_10_code
def yX5_readPart : MethodName := ⟨RX5, "readPart", "(LThirdAlike$Text;I)V"⟩
abbrev cX5_readOneOf : ByteArray := prog_7_method_11_code
def yX5_readOneOf : MethodName := ⟨RX5, "readOneOf", "(Ljava/lang/String;)I"⟩
def RX6 : String := "ThirdAlike$Ways"
def TX6 : u_T := fun k => match k with
  | 0 => ("ThirdAlike$Ways", "found", "[I", true)
  | 1 => ("ThirdAlike$Ways", "start", "[I", true)
  | 2 => ("ThirdAlike$Ways", "byPairs", "Z", false)
  | _ => ("ThirdAlike$Ways", "fewest", "I", false)
def tyX6 : Nat → FieldType := fun k => match k with
  | 0 => .array .int
  | 1 => .array .int
  | 2 => .boolean
  | _ => .int
theorem nmX6 : ∀ a, a < 4 → ∀ b, b < 4 → a ≠ b → (TX6 a).2.1 ≠ (TX6 b).2.1 := by decide +kernel
theorem tyX6_ok : ∀ k, k < 4 → parseFieldDescriptor (TX6 k).2.2.1 = some (tyX6 k) := by decide +kernel
abbrev cX6_init : ByteArray := prog_8_method_1_code
def yX6_init : MethodName := ⟨RX6, "<init>", "()V"⟩
abbrev cX6_find : ByteArray := prog_8_method_2_code
def yX6_find : MethodName := ⟨RX6, "find", "(LThirdAlike$Life;Z)I"⟩
abbrev cX6_tryFrom : ByteArray := prog_8_method_3_code
def yX6_tryFrom : MethodName := ⟨RX6, "tryFrom", "(LThirdAlike$Ways;LThirdAlike$Life;III)V"⟩
def RX7 : String := "ThirdAlike"
def TX7 : u_T := fun k => match k with
  | 0 => ("ThirdAlike", "streets", "[LThirdAlike$Street;", true)
  | 1 => ("ThirdAlike", "tapes", "[LThirdAlike$Tape;", true)
  | 2 => ("ThirdAlike", "text", "LThirdAlike$Text;", true)
  | 3 => ("ThirdAlike", "actor", "LThirdAlike$Actor;", true)
  | 4 => ("ThirdAlike", "ways", "LThirdAlike$Ways;", true)
  | 5 => ("ThirdAlike", "now", "LThirdAlike$State;", true)
  | 6 => ("ThirdAlike", "kept", "LThirdAlike$State;", true)
  | 7 => ("ThirdAlike", "life", "LThirdAlike$Life;", true)
  | 8 => ("ThirdAlike", "made", "I", false)
  | _ => ("ThirdAlike", "isKept", "Z", false)
def tyX7 : Nat → FieldType := fun k => match k with
  | 0 => .array (.object "ThirdAlike$Street")
  | 1 => .array (.object "ThirdAlike$Tape")
  | 2 => .object "ThirdAlike$Text"
  | 3 => .object "ThirdAlike$Actor"
  | 4 => .object "ThirdAlike$Ways"
  | 5 => .object "ThirdAlike$State"
  | 6 => .object "ThirdAlike$State"
  | 7 => .object "ThirdAlike$Life"
  | 8 => .int
  | _ => .boolean
theorem nmX7 : ∀ a, a < 10 → ∀ b, b < 10 → a ≠ b → (TX7 a).2.1 ≠ (TX7 b).2.1 := by decide +kernel
theorem tyX7_ok : ∀ k, k < 10 → parseFieldDescriptor (TX7 k).2.2.1 = some (tyX7 k) := by decide +kernel
abbrev cX7_init : ByteArray := prog_1_method_1_code
def yX7_init : MethodName := ⟨RX7, "<init>", "()V"⟩
abbrev cX7_town : ByteArray := prog_1_method_2_code
def yX7_town : MethodName := ⟨RX7, "town", "(II)I"⟩
abbrev cX7_neighbours : ByteArray := prog_1_method_3_code
def yX7_neighbours : MethodName := ⟨RX7, "neighbours", "(I)I"⟩
abbrev cX7_person : ByteArray := prog_1_method_4_code
def yX7_person : MethodName := ⟨RX7, "person", "(IIII)I"⟩
abbrev cX7_of : ByteArray := prog_1_method_5_code
def yX7_of : MethodName := ⟨RX7, "of", "(II)I"⟩
abbrev cX7_put : ByteArray := prog_1_method_6_code
def yX7_put : MethodName := ⟨RX7, "put", "(II)I"⟩
abbrev cX7_feed : ByteArray := prog_1_method_7_code
def yX7_feed : MethodName := ⟨RX7, "feed", "(I)I"⟩
abbrev cX7_street : ByteArray := prog_1_method_8_code
def yX7_street : MethodName := ⟨RX7, "street", "()I"⟩
abbrev cX7_told : ByteArray := prog_1_method_9_code
def yX7_told : MethodName := ⟨RX7, "told", "(I)I"⟩
abbrev cX7_move : ByteArray := prog_1_method_10_code
def yX7_move : MethodName := ⟨RX7, "move", "()I"⟩
abbrev cX7_run : ByteArray := prog_1_method_11_code
def yX7_run : MethodName := ⟨RX7, "run", "(II)I"⟩
abbrev cX7_rest : ByteArray := prog_1_method_12_code
def yX7_rest : MethodName := ⟨RX7, "rest", "()I"⟩
abbrev cX7_again : ByteArray := prog_1_method_13_code
def yX7_again : MethodName := ⟨RX7, "again", "()I"⟩
abbrev cX7_mixed : ByteArray := prog_1_method_14_code
def yX7_mixed : MethodName := ⟨RX7, "mixed", "(I)I"⟩
abbrev cX7_few : ByteArray := prog_1_method_15_code
def yX7_few : MethodName := ⟨RX7, "few", "()I"⟩
abbrev cX7_edge : ByteArray := prog_1_method_16_code
def yX7_edge : MethodName := ⟨RX7, "edge", "()I"⟩
abbrev cX7_begins : ByteArray := prog_1_method_17_code
def yX7_begins : MethodName := ⟨RX7, "begins", "()I"⟩
abbrev cX7_holds : ByteArray := prog_1_method_18_code
def yX7_holds : MethodName := ⟨RX7, "holds", "()I"⟩
abbrev cX7_before : ByteArray := prog_1_method_19_code
def yX7_before : MethodName := ⟨RX7, "before", "(I)I"⟩
abbrev cX7_odds : ByteArray := prog_1_method_20_code
def yX7_odds : MethodName := ⟨RX7, "odds", "(II)J"⟩
abbrev cX7_quarter : ByteArray := prog_1_method_21_code
def yX7_quarter : MethodName := ⟨RX7, "quarter", "(III)J"⟩
abbrev cX7_book : ByteArray := prog_1_method_22_code
def yX7_book : MethodName := ⟨RX7, "book", "(I)I"⟩
abbrev cX7_looked : ByteArray := prog_1_method_23_code
def yX7_looked : MethodName := ⟨RX7, "looked", "()I"⟩
abbrev cX7_judge : ByteArray := prog_1_method_24_code
def yX7_judge : MethodName := ⟨RX7, "judge", "(II)I"⟩
abbrev cX7_image : ByteArray := prog_1_method_25_code
def yX7_image : MethodName := ⟨RX7, "image", "()I"⟩
abbrev cX7_undo : ByteArray := prog_1_method_26_code
def yX7_undo : MethodName := ⟨RX7, "undo", "()I"⟩
abbrev cX7_act : ByteArray := prog_1_method_27_code
def yX7_act : MethodName := ⟨RX7, "act", "(III)I"⟩
abbrev cX7_trace : ByteArray := prog_1_method_28_code
def yX7_trace : MethodName := ⟨RX7, "trace", "(I)I"⟩
abbrev cX7_taken : ByteArray := prog_1_method_29_code
def yX7_taken : MethodName := ⟨RX7, "taken", "(II)I"⟩
abbrev cX7_count : ByteArray := prog_1_method_30_code
def yX7_count : MethodName := ⟨RX7, "count", "(I)I"⟩
abbrev cX7_tape : ByteArray := prog_1_method_31_code
def yX7_tape : MethodName := ⟨RX7, "tape", "(III)I"⟩
abbrev cX7_item : ByteArray := prog_1_method_32_code
def yX7_item : MethodName := ⟨RX7, "item", "(IIJ)I"⟩
abbrev cX7_read : ByteArray := prog_1_method_33_code
def yX7_read : MethodName := ⟨RX7, "read", "(II)J"⟩
abbrev cX7_shift : ByteArray := prog_1_method_34_code
def yX7_shift : MethodName := ⟨RX7, "shift", "(IIIII)I"⟩
abbrev cX7_isHouse : ByteArray := prog_1_method_35_code
def yX7_isHouse : MethodName := ⟨RX7, "isHouse", "(I)Z"⟩
abbrev cX7_isPerson : ByteArray := prog_1_method_36_code
def yX7_isPerson : MethodName := ⟨RX7, "isPerson", "(I)Z"⟩
abbrev cX7_isTape : ByteArray := prog_1_method_37_code
def yX7_isTape : MethodName := ⟨RX7, "isTape", "(I)Z"⟩
abbrev cX7_partInLowestTerms : ByteArray := prog_1_method_38_code
def yX7_partInLowestTerms : MethodName := ⟨RX7, "partInLowestTerms", "(III)J"⟩
def RX8 : String := "ThirdAlikeModel"
def TX8 : u_T := fun k => match k with
  | 0 => ("ThirdAlikeModel", "size", "I", false)
  | 1 => ("ThirdAlikeModel", "shape", "I", false)
  | 2 => ("ThirdAlikeModel", "people", "I", false)
  | 3 => ("ThirdAlikeModel", "gone", "I", false)
  | 4 => ("ThirdAlikeModel", "kind", "[I", true)
  | 5 => ("ThirdAlikeModel", "v", "[I", true)
  | 6 => ("ThirdAlikeModel", "kin", "[I", true)
  | 7 => ("ThirdAlikeModel", "home", "[I", true)
  | 8 => ("ThirdAlikeModel", "streets", "I", false)
  | 9 => ("ThirdAlikeModel", "the", "I", false)
  | 10 => ("ThirdAlikeModel", "fed", "I", false)
  | 11 => ("ThirdAlikeModel", "at", "I", false)
  | 12 => ("ThirdAlikeModel", "digits", "I", false)
  | 13 => ("ThirdAlikeModel", "text", "[I", true)
  | 14 => ("ThirdAlikeModel", "clauses", "[I", true)
  | 15 => ("ThirdAlikeModel", "word", "[I", true)
  | 16 => ("ThirdAlikeModel", "number", "[I", true)
  | 17 => ("ThirdAlikeModel", "from", "[I", true)
  | 18 => ("ThirdAlikeModel", "to", "[I", true)
  | 19 => ("ThirdAlikeModel", "sign", "[I", true)
  | 20 => ("ThirdAlikeModel", "waits", "[I", true)
  | 21 => ("ThirdAlikeModel", "signs", "I", false)
  | 22 => ("ThirdAlikeModel", "waiting", "I", false)
  | 23 => ("ThirdAlikeModel", "open", "I", false)
  | 24 => ("ThirdAlikeModel", "letters", "[I", true)
  | 25 => ("ThirdAlikeModel", "pile", "[Z", true)
  | 26 => ("ThirdAlikeModel", "wished", "I", false)
  | 27 => ("ThirdAlikeModel", "kept", "[I", true)
  | 28 => ("ThirdAlikeModel", "keptGone", "I", false)
  | 29 => ("ThirdAlikeModel", "best", "[I", true)
  | 30 => ("ThirdAlikeModel", "fewest", "I", false)
  | 31 => ("ThirdAlikeModel", "least", "I", false)
  | 32 => ("ThirdAlikeModel", "books", "I", false)
  | 33 => ("ThirdAlikeModel", "told", "[I", true)
  | 34 => ("ThirdAlikeModel", "hasImage", "Z", false)
  | 35 => ("ThirdAlikeModel", "imageThe", "I", false)
  | 36 => ("ThirdAlikeModel", "imageSize", "I", false)
  | 37 => ("ThirdAlikeModel", "imageShape", "I", false)
  | 38 => ("ThirdAlikeModel", "imagePeople", "I", false)
  | 39 => ("ThirdAlikeModel", "imageGone", "I", false)
  | 40 => ("ThirdAlikeModel", "imageBooks", "I", false)
  | 41 => ("ThirdAlikeModel", "imageKind", "[I", true)
  | 42 => ("ThirdAlikeModel", "imageV", "[I", true)
  | 43 => ("ThirdAlikeModel", "imageKin", "[I", true)
  | 44 => ("ThirdAlikeModel", "imageHome", "[I", true)
  | 45 => ("ThirdAlikeModel", "imageTold", "[I", true)
  | 46 => ("ThirdAlikeModel", "ran", "I", false)
  | 47 => ("ThirdAlikeModel", "bodies", "[I", true)
  | 48 => ("ThirdAlikeModel", "sort", "[I", true)
  | 49 => ("ThirdAlikeModel", "length", "[I", true)
  | 50 => ("ThirdAlikeModel", "item", "[J", true)
  | _ => ("ThirdAlikeModel", "aside", "[J", true)
def tyX8 : Nat → FieldType := fun k => match k with
  | 0 => .int
  | 1 => .int
  | 2 => .int
  | 3 => .int
  | 4 => .array .int
  | 5 => .array .int
  | 6 => .array .int
  | 7 => .array .int
  | 8 => .int
  | 9 => .int
  | 10 => .int
  | 11 => .int
  | 12 => .int
  | 13 => .array .int
  | 14 => .array .int
  | 15 => .array .int
  | 16 => .array .int
  | 17 => .array .int
  | 18 => .array .int
  | 19 => .array .int
  | 20 => .array .int
  | 21 => .int
  | 22 => .int
  | 23 => .int
  | 24 => .array .int
  | 25 => .array .boolean
  | 26 => .int
  | 27 => .array .int
  | 28 => .int
  | 29 => .array .int
  | 30 => .int
  | 31 => .int
  | 32 => .int
  | 33 => .array .int
  | 34 => .boolean
  | 35 => .int
  | 36 => .int
  | 37 => .int
  | 38 => .int
  | 39 => .int
  | 40 => .int
  | 41 => .array .int
  | 42 => .array .int
  | 43 => .array .int
  | 44 => .array .int
  | 45 => .array .int
  | 46 => .int
  | 47 => .array .int
  | 48 => .array .int
  | 49 => .array .int
  | 50 => .array .long
  | _ => .array .long
theorem nmX8 : ∀ a, a < 52 → ∀ b, b < 52 → a ≠ b → (TX8 a).2.1 ≠ (TX8 b).2.1 := by decide +kernel
theorem tyX8_ok : ∀ k, k < 52 → parseFieldDescriptor (TX8 k).2.2.1 = some (tyX8 k) := by decide +kernel
abbrev cX8_init : ByteArray := prog_10_method_1_code
def yX8_init : MethodName := ⟨RX8, "<init>", "()V"⟩
abbrev cX8_in : ByteArray := prog_10_method_2_code
def yX8_in : MethodName := ⟨RX8, "in", "(III)Z"⟩
abbrev cX8_has : ByteArray := prog_10_method_3_code
def yX8_has : MethodName := ⟨RX8, "has", "(II)Z"⟩
abbrev cX8_ones : ByteArray := prog_10_method_4_code
def yX8_ones : MethodName := ⟨RX8, "ones", "(I)I"⟩
abbrev cX8_isPerson : ByteArray := prog_10_method_5_code
def yX8_isPerson : MethodName := ⟨RX8, "isPerson", "(I)Z"⟩
abbrev cX8_isHouse : ByteArray := prog_10_method_6_code
def yX8_isHouse : MethodName := ⟨RX8, "isHouse", "(I)Z"⟩
abbrev cX8_areNext : ByteArray := prog_10_method_7_code
def yX8_areNext : MethodName := ⟨RX8, "areNext", "(II)Z"⟩
abbrev cX8_neighbours : ByteArray := prog_10_method_8_code
def yX8_neighbours : MethodName := ⟨RX8, "neighbours", "(I)I"⟩
abbrev cX8_whoIn : ByteArray := prog_10_method_9_code
def yX8_whoIn : MethodName := ⟨RX8, "whoIn", "(I)I"⟩
abbrev cX8_town : ByteArray := prog_10_method_10_code
def yX8_town : MethodName := ⟨RX8, "town", "(II)I"⟩
abbrev cX8_person : ByteArray := prog_10_method_11_code
def yX8_person : MethodName := ⟨RX8, "person", "(IIII)I"⟩
abbrev cX8_put : ByteArray := prog_10_method_12_code
def yX8_put : MethodName := ⟨RX8, "put", "(II)I"⟩
abbrev cX8_feed : ByteArray := prog_10_method_13_code
def yX8_feed : MethodName := ⟨RX8, "feed", "(I)I"⟩
abbrev cX8_next : ByteArray := prog_10_method_14_code
def yX8_next : MethodName := ⟨RX8, "next", "()I"⟩
abbrev cX8_takes : ByteArray := prog_10_method_15_code
def yX8_takes : MethodName := ⟨RX8, "takes", "(I)Z"⟩
abbrev cX8_takesWord : ByteArray := prog_10_method_16_code
def yX8_takesWord : MethodName := ⟨RX8, "takesWord", "(II)Z"⟩
abbrev cX8_isDigit : ByteArray := prog_10_method_17_code
def yX8_isDigit : MethodName := ⟨RX8, "isDigit", "()Z"⟩
abbrev cX8_takesNumber : ByteArray := prog_10_method_18_code
def yX8_takesNumber : MethodName := ⟨RX8, "takesNumber", "()Z"⟩
abbrev cX8_emits : ByteArray := prog_10_method_19_code
def yX8_emits : MethodName := ⟨RX8, "emits", "(I)V"⟩
abbrev cX8_whole : ByteArray := prog_10_method_20_code
def yX8_whole : MethodName := ⟨RX8, "whole", "()V"⟩
abbrev cX8_settle : ByteArray := prog_10_method_21_code
def yX8_settle : MethodName := ⟨RX8, "settle", "(I)V"⟩
abbrev cX8_place : ByteArray := prog_10_method_22_code
def yX8_place : MethodName := ⟨RX8, "place", "(I)I"⟩
abbrev cX8_takesTest : ByteArray := prog_10_method_23_code
def yX8_takesTest : MethodName := ⟨RX8, "takesTest", "()Z"⟩
abbrev cX8_takesE : ByteArray := prog_10_method_24_code
def yX8_takesE : MethodName := ⟨RX8, "takesE", "(I)Z"⟩
abbrev cX8_takesHead : ByteArray := prog_10_method_25_code
def yX8_takesHead : MethodName := ⟨RX8, "takesHead", "(I)Z"⟩
abbrev cX8_takesClause : ByteArray := prog_10_method_26_code
def yX8_takesClause : MethodName := ⟨RX8, "takesClause", "(I)Z"⟩
abbrev cX8_goesText : ByteArray := prog_10_method_27_code
def yX8_goesText : MethodName := ⟨RX8, "goesText", "(I)Z"⟩
abbrev cX8_street : ByteArray := prog_10_method_28_code
def yX8_street : MethodName := ⟨RX8, "street", "()I"⟩
abbrev cX8_firstClause : ByteArray := prog_10_method_29_code
def yX8_firstClause : MethodName := ⟨RX8, "firstClause", "()I"⟩
abbrev cX8_behind : ByteArray := prog_10_method_30_code
def yX8_behind : MethodName := ⟨RX8, "behind", "()I"⟩
abbrev cX8_factOf : ByteArray := prog_10_method_31_code
def yX8_factOf : MethodName := ⟨RX8, "factOf", "(IIII)I"⟩
abbrev cX8_isSo : ByteArray := prog_10_method_32_code
def yX8_isSo : MethodName := ⟨RX8, "isSo", "(IIII)Z"⟩
abbrev cX8_sumOf : ByteArray := prog_10_method_33_code
def yX8_sumOf : MethodName := ⟨RX8, "sumOf", "(IIII)I"⟩
abbrev cX8_wishOf : ByteArray := prog_10_method_34_code
def yX8_wishOf : MethodName := ⟨RX8, "wishOf", "(III)I"⟩
abbrev cX8_mostOf : ByteArray := prog_10_method_35_code
def yX8_mostOf : MethodName := ⟨RX8, "mostOf", "(III)I"⟩
abbrev cX8_beside : ByteArray := prog_10_method_36_code
def yX8_beside : MethodName := ⟨RX8, "beside", "(IIZ)I"⟩
abbrev cX8_isContentIn : ByteArray := prog_10_method_37_code
def yX8_isContentIn : MethodName := ⟨RX8, "isContentIn", "(II)Z"⟩
abbrev cX8_isContent : ByteArray := prog_10_method_38_code
def yX8_isContent : MethodName := ⟨RX8, "isContent", "(I)Z"⟩
abbrev cX8_areAll : ByteArray := prog_10_method_39_code
def yX8_areAll : MethodName := ⟨RX8, "areAll", "()Z"⟩
abbrev cX8_happy : ByteArray := prog_10_method_40_code
def yX8_happy : MethodName := ⟨RX8, "happy", "()I"⟩
abbrev cX8_freeOnes : ByteArray := prog_10_method_41_code
def yX8_freeOnes : MethodName := ⟨RX8, "freeOnes", "()I"⟩
abbrev cX8_wanted : ByteArray := prog_10_method_42_code
def yX8_wanted : MethodName := ⟨RX8, "wanted", "(I)I"⟩
abbrev cX8_leastOf : ByteArray := prog_10_method_43_code
def yX8_leastOf : MethodName := ⟨RX8, "leastOf", "(I)I"⟩
abbrev cX8_nearest : ByteArray := prog_10_method_44_code
def yX8_nearest : MethodName := ⟨RX8, "nearest", "(II)I"⟩
abbrev cX8_behindOwn : ByteArray := prog_10_method_45_code
def yX8_behindOwn : MethodName := ⟨RX8, "behindOwn", "(II)I"⟩
abbrev cX8_changes : ByteArray := prog_10_method_46_code
def yX8_changes : MethodName := ⟨RX8, "changes", "(II)V"⟩
abbrev cX8_partner : ByteArray := prog_10_method_47_code
def yX8_partner : MethodName := ⟨RX8, "partner", "(I)I"⟩
abbrev cX8_cheap : ByteArray := prog_10_method_48_code
def yX8_cheap : MethodName := ⟨RX8, "cheap", "(II)I"⟩
abbrev cX8_swapsTo : ByteArray := prog_10_method_49_code
def yX8_swapsTo : MethodName := ⟨RX8, "swapsTo", "(I)I"⟩
abbrev cX8_goesTo : ByteArray := prog_10_method_50_code
def yX8_goesTo : MethodName := ⟨RX8, "goesTo", "(I)I"⟩
abbrev cX8_pairs : ByteArray := prog_10_method_51_code
def yX8_pairs : MethodName := ⟨RX8, "pairs", "(Z)I"⟩
abbrev cX8_of : ByteArray := prog_10_method_52_code
def yX8_of : MethodName := ⟨RX8, "of", "(II)I"⟩
abbrev cX8_told : ByteArray := prog_10_method_53_code
def yX8_told : MethodName := ⟨RX8, "told", "(I)I"⟩
abbrev cX8_goMove : ByteArray := prog_10_method_54_code
def yX8_goMove : MethodName := ⟨RX8, "goMove", "()I"⟩
abbrev cX8_move : ByteArray := prog_10_method_55_code
def yX8_move : MethodName := ⟨RX8, "move", "()I"⟩
abbrev cX8_keep : ByteArray := prog_10_method_56_code
def yX8_keep : MethodName := ⟨RX8, "keep", "()V"⟩
abbrev cX8_putBack : ByteArray := prog_10_method_57_code
def yX8_putBack : MethodName := ⟨RX8, "putBack", "()V"⟩
abbrev cX8_areKept : ByteArray := prog_10_method_58_code
def yX8_areKept : MethodName := ⟨RX8, "areKept", "()Z"⟩
abbrev cX8_goMoves : ByteArray := prog_10_method_59_code
def yX8_goMoves : MethodName := ⟨RX8, "goMoves", "(I)I"⟩
abbrev cX8_run : ByteArray := prog_10_method_60_code
def yX8_run : MethodName := ⟨RX8, "run", "(II)I"⟩
abbrev cX8_rest : ByteArray := prog_10_method_61_code
def yX8_rest : MethodName := ⟨RX8, "rest", "()I"⟩
abbrev cX8_again : ByteArray := prog_10_method_62_code
def yX8_again : MethodName := ⟨RX8, "again", "()I"⟩
abbrev cX8_nextWay : ByteArray := prog_10_method_63_code
def yX8_nextWay : MethodName := ⟨RX8, "nextWay", "()Z"⟩
abbrev cX8_areUnlike : ByteArray := prog_10_method_64_code
def yX8_areUnlike : MethodName := ⟨RX8, "areUnlike", "()Z"⟩
abbrev cX8_takeWay : ByteArray := prog_10_method_65_code
def yX8_takeWay : MethodName := ⟨RX8, "takeWay", "()V"⟩
abbrev cX8_layWays : ByteArray := prog_10_method_66_code
def yX8_layWays : MethodName := ⟨RX8, "layWays", "()V"⟩
abbrev cX8_mixed : ByteArray := prog_10_method_67_code
def yX8_mixed : MethodName := ⟨RX8, "mixed", "(I)I"⟩
abbrev cX8_few : ByteArray := prog_10_method_68_code
def yX8_few : MethodName := ⟨RX8, "few", "()I"⟩
abbrev cX8_edge : ByteArray := prog_10_method_69_code
def yX8_edge : MethodName := ⟨RX8, "edge", "()I"⟩
abbrev cX8_begins : ByteArray := prog_10_method_70_code
def yX8_begins : MethodName := ⟨RX8, "begins", "()I"⟩
abbrev cX8_isHeldBy : ByteArray := prog_10_method_71_code
def yX8_isHeldBy : MethodName := ⟨RX8, "isHeldBy", "(II)Z"⟩
abbrev cX8_holds : ByteArray := prog_10_method_72_code
def yX8_holds : MethodName := ⟨RX8, "holds", "()I"⟩
abbrev cX8_leadsHere : ByteArray := prog_10_method_73_code
def yX8_leadsHere : MethodName := ⟨RX8, "leadsHere", "(II)Z"⟩
abbrev cX8_before : ByteArray := prog_10_method_74_code
def yX8_before : MethodName := ⟨RX8, "before", "(I)I"⟩
abbrev cX8_divisor : ByteArray := prog_10_method_75_code
def yX8_divisor : MethodName := ⟨RX8, "divisor", "(II)I"⟩
abbrev cX8_lowest : ByteArray := prog_10_method_76_code
def yX8_lowest : MethodName := ⟨RX8, "lowest", "(III)J"⟩
abbrev cX8_goodOnes : ByteArray := prog_10_method_77_code
def yX8_goodOnes : MethodName := ⟨RX8, "goodOnes", "()I"⟩
abbrev cX8_goodTwos : ByteArray := prog_10_method_78_code
def yX8_goodTwos : MethodName := ⟨RX8, "goodTwos", "()I"⟩
abbrev cX8_odds : ByteArray := prog_10_method_79_code
def yX8_odds : MethodName := ⟨RX8, "odds", "(II)J"⟩
abbrev cX8_quarter : ByteArray := prog_10_method_80_code
def yX8_quarter : MethodName := ⟨RX8, "quarter", "(III)J"⟩
abbrev cX8_book : ByteArray := prog_10_method_81_code
def yX8_book : MethodName := ⟨RX8, "book", "(I)I"⟩
abbrev cX8_looked : ByteArray := prog_10_method_82_code
def yX8_looked : MethodName := ⟨RX8, "looked", "()I"⟩
abbrev cX8_judge : ByteArray := prog_10_method_83_code
def yX8_judge : MethodName := ⟨RX8, "judge", "(II)I"⟩
abbrev cX8_image : ByteArray := prog_10_method_84_code
def yX8_image : MethodName := ⟨RX8, "image", "()I"⟩
abbrev cX8_undo : ByteArray := prog_10_method_85_code
def yX8_undo : MethodName := ⟨RX8, "undo", "()I"⟩
abbrev cX8_body : ByteArray := prog_10_method_86_code
def yX8_body : MethodName := ⟨RX8, "body", "(I)V"⟩
abbrev cX8_moverLooks : ByteArray := prog_10_method_87_code
def yX8_moverLooks : MethodName := ⟨RX8, "moverLooks", "(II)I"⟩
abbrev cX8_looksAct : ByteArray := prog_10_method_88_code
def yX8_looksAct : MethodName := ⟨RX8, "looksAct", "(II)I"⟩
abbrev cX8_moverGoes : ByteArray := prog_10_method_89_code
def yX8_moverGoes : MethodName := ⟨RX8, "moverGoes", "(II)I"⟩
abbrev cX8_nearGoes : ByteArray := prog_10_method_90_code
def yX8_nearGoes : MethodName := ⟨RX8, "nearGoes", "(II)I"⟩
abbrev cX8_goesAct : ByteArray := prog_10_method_91_code
def yX8_goesAct : MethodName := ⟨RX8, "goesAct", "(II)I"⟩
abbrev cX8_moverTells : ByteArray := prog_10_method_92_code
def yX8_moverTells : MethodName := ⟨RX8, "moverTells", "(II)I"⟩
abbrev cX8_tellsAct : ByteArray := prog_10_method_93_code
def yX8_tellsAct : MethodName := ⟨RX8, "tellsAct", "(II)I"⟩
abbrev cX8_act : ByteArray := prog_10_method_94_code
def yX8_act : MethodName := ⟨RX8, "act", "(III)I"⟩
abbrev cX8_trace : ByteArray := prog_10_method_95_code
def yX8_trace : MethodName := ⟨RX8, "trace", "(I)I"⟩
abbrev cX8_taken : ByteArray := prog_10_method_96_code
def yX8_taken : MethodName := ⟨RX8, "taken", "(II)I"⟩
abbrev cX8_count : ByteArray := prog_10_method_97_code
def yX8_count : MethodName := ⟨RX8, "count", "(I)I"⟩
abbrev cX8_isTape : ByteArray := prog_10_method_98_code
def yX8_isTape : MethodName := ⟨RX8, "isTape", "(I)Z"⟩
abbrev cX8_tape : ByteArray := prog_10_method_99_code
def yX8_tape : MethodName := ⟨RX8, "tape", "(III)I"⟩
abbrev cX8_narrow : ByteArray := prog_10_method_100_code
def yX8_narrow : MethodName := ⟨RX8, "narrow", "(IJ)J"⟩
abbrev cX8_item : ByteArray := prog_10_method_101_code
def yX8_item : MethodName := ⟨RX8, "item", "(IIJ)I"⟩
abbrev cX8_read : ByteArray := prog_10_method_102_code
def yX8_read : MethodName := ⟨RX8, "read", "(II)J"⟩
abbrev cX8_shift : ByteArray := prog_10_method_103_code
def yX8_shift : MethodName := ⟨RX8, "shift", "(IIIII)I"⟩
abbrev vwCl : List vw_C := [(RX0, TX0, 5), (RX1, TX1, 9), (RX2, TX2, 12), (RX3, TX3, 3), (RX4, TX4, 3), (RX5, TX5, 6), (RX6, TX6, 4), (RX7, TX7, 10), (RX8, TX8, 52)]
end
section
/-! MINI MACHINE: values as whole numbers, cells by family and number; V: the walk Y, seen from there -/
abbrev ZV : Type := Int ⊕ (Int ⊕ ((Nat × Nat) ⊕ Nat))
abbrev ZI (x : Int) : ZV := .inl x
abbrev ZJ (x : Int) : ZV := .inr (.inl x)
abbrev ZR (f i : Nat) : ZV := .inr (.inr (.inl (f, i)))
abbrev ZX (k : Nat) : ZV := .inr (.inr (.inr k))
abbrev ZG : Type := Nat → Nat → Nat → Int
def zup (g : ZG) (f i k : Nat) (v : Int) : ZG := fun a b c => if a = f ∧ b = i ∧ c = k then v else g a b c
/-- the words that a callee may be handed -/
def zTB : List Cond := lw_tbl.filter goodWord
/-- what a family is: kind (0 object, 1 ints, 2 bytes, 3 booleans, 4 longs, 5 streets, 6 tapes), how many -/
def zfam (f : Nat) : Nat × Nat := match f with
  | 0 => (0, 5) | 1 => (0, 9) | 2 => (0, 12) | 3 => (0, 3) | 4 => (0, 3) | 5 => (0, 6) | 6 => (0, 4) | 7 => (0, 10) | 8 => (0, 52)
  | 10 => (1, 20) | 11 => (1, 6) | 12 => (1, 864) | 13 => (1, 288) | 14 => (1, 8) | 15 => (1, 6) | 16 => (1, 6) | 17 => (1, 6) | 18 => (1, 6) | 19 => (1, 12)
  | 20 => (1, 100) | 21 => (4, 60) | 22 => (2, 100) | 23 => (1, 6) | 24 => (1, 6) | 25 => (5, 6) | 26 => (6, 6)
  | 30 => (1, 6) | 31 => (1, 6) | 32 => (1, 6) | 33 => (1, 6) | 34 => (1, 100) | 35 => (1, 6) | 36 => (1, 60) | 37 => (1, 60) | 38 => (1, 60) | 39 => (1, 60) | 40 => (1, 600) | 41 => (1, 101) | 42 => (1, 12) | 43 => (3, 100)
  | 44 => (1, 6) | 45 => (1, 6) | 46 => (1, 12) | 47 => (1, 6) | 48 => (1, 6) | 49 => (1, 6) | 50 => (1, 6) | 51 => (1, 12) | 52 => (1, 20) | 53 => (1, 6) | 54 => (1, 6) | 55 => (4, 360) | 56 => (4, 60)
  | _ => (9, 0)
/-- the fields of a class: (tag, a, b); tag 0 int, 1 boolean, 3 the cell (a, own number), 4 the cell (a, b), 5 a cell of family a, 6 that or null -/
def zfld (f : Nat) : List (Nat × Nat × Nat) := match f with
  | 0 => [(0, 0, 0), (0, 0, 0), (0, 0, 0), (0, 0, 0), (3, 10, 0)]
  | 1 => [(4, 2, 2), (0, 0, 0), (3, 11, 0), (0, 0, 0), (0, 0, 0), (0, 0, 0), (3, 12, 0), (3, 13, 0), (0, 0, 0)]
  | 2 => [(0, 0, 0), (0, 0, 0), (3, 14, 0), (0, 0, 0), (3, 15, 0), (3, 16, 0), (3, 17, 0), (3, 18, 0), (0, 0, 0), (3, 19, 0), (0, 0, 0), (5, 3, 0)]
  | 3 => [(3, 20, 0), (0, 0, 0), (1, 0, 0)]
  | 4 => [(0, 0, 0), (0, 0, 0), (3, 21, 0)]
  | 5 => [(0, 0, 0), (3, 22, 0), (6, 3, 0), (0, 0, 0), (0, 0, 0), (1, 0, 0)]
  | 6 => [(3, 23, 0), (3, 24, 0), (1, 0, 0), (0, 0, 0)]
  | 7 => [(3, 25, 0), (3, 26, 0), (4, 5, 0), (4, 0, 0), (4, 6, 0), (4, 2, 0), (4, 2, 1), (4, 1, 0), (0, 0, 0), (1, 0, 0)]
  | 8 => [(0, 0, 0), (0, 0, 0), (0, 0, 0), (0, 0, 0), (3, 30, 0), (3, 31, 0), (3, 32, 0), (3, 33, 0), (0, 0, 0), (0, 0, 0), (0, 0, 0), (0, 0, 0), (0, 0, 0), (3, 34, 0), (3, 35, 0), (3, 36, 0), (3, 37, 0), (3, 38, 0), (3, 39, 0), (3, 40, 0), (3, 41, 0), (0, 0, 0), (0, 0, 0), (0, 0, 0), (3, 42, 0), (3, 43, 0), (0, 0, 0), (3, 44, 0), (0, 0, 0), (3, 45, 0), (0, 0, 0), (0, 0, 0), (0, 0, 0), (3, 46, 0), (1, 0, 0), (0, 0, 0), (0, 0, 0), (0, 0, 0), (0, 0, 0), (0, 0, 0), (0, 0, 0), (3, 47, 0), (3, 48, 0), (3, 49, 0), (3, 50, 0), (3, 51, 0), (0, 0, 0), (3, 52, 0), (3, 53, 0), (3, 54, 0), (3, 55, 0), (3, 56, 0)]
  | _ => []
/-- a world: the kit's class numbers, the classes of arrays by kind, which cells there are, where they lie, where what is outside lies -/
abbrev ZW : Type := va_G × (Nat → ClassId) × List (Nat × Nat) × (Nat → Nat → Nat) × (Nat → Nat)
abbrev zD (Y : ZW) : va_G := Y.1
abbrev zcA (Y : ZW) : Nat → ClassId := Y.2.1
abbrev zids (Y : ZW) : List (Nat × Nat) := Y.2.2.1
abbrev zad (Y : ZW) : Nat → Nat → Nat := Y.2.2.2.1
abbrev zex (Y : ZW) : Nat → Nat := Y.2.2.2.2
def ztys (Y : ZW) : List (ClassId × FieldType) := [(zcA Y 1, .int), (zcA Y 2, .byte), (zcA Y 3, .boolean), (zcA Y 4, .long), (zcA Y 5, .object "ThirdAlike$Street"), (zcA Y 6, .object "ThirdAlike$Tape")]
def zval (Y : ZW) (v : ZV) : Value := match v with
  | .inl x => .int (Int32.ofInt x)
  | .inr (.inl x) => .long (Int64.ofInt x)
  | .inr (.inr (.inl q)) => .ref (zad Y q.1 q.2)
  | .inr (.inr (.inr k)) => .ref (zex Y k)
def zok (Y : ZW) (v : ZV) : Prop := match v with
  | .inl x => -2147483648 ≤ x ∧ x < 2147483648
  | .inr (.inl x) => -9223372036854775808 ≤ x ∧ x < 9223372036854775808
  | .inr (.inr (.inl q)) => q ∈ zids Y
  | .inr (.inr (.inr _)) => True
/-- a field's value -/
def zfv (Y : ZW) (t : Nat × Nat × Nat) (i : Nat) (x : Int) : Value := match t.1 with
  | 0 => .int (Int32.ofInt x)
  | 1 => .int (Int32.ofInt x)
  | 3 => .ref (zad Y t.2.1 i)
  | 4 => .ref (zad Y t.2.1 t.2.2)
  | 5 => .ref (zad Y t.2.1 x.toNat)
  | _ => if x < 0 then .null else .ref (zad Y t.2.1 x.toNat)
/-- what may stand in a place -/
def zfr (Y : ZW) (t : Nat × Nat × Nat) (i : Nat) (x : Int) : Prop := match t.1 with
  | 0 => -2147483648 ≤ x ∧ x < 2147483648
  | 1 => 0 ≤ x ∧ x ≤ 1
  | 3 => (t.2.1, i) ∈ zids Y
  | 4 => (t.2.1, t.2.2) ∈ zids Y
  | 5 => (t.2.1, x.toNat) ∈ zids Y
  | _ => 0 ≤ x → (t.2.1, x.toNat) ∈ zids Y
def zar (k : Nat) (x : Int) : Prop := match k with
  | 1 => -2147483648 ≤ x ∧ x < 2147483648
  | 2 => -128 ≤ x ∧ x < 128
  | 3 => 0 ≤ x ∧ x ≤ 1
  | 4 => -9223372036854775808 ≤ x ∧ x < 9223372036854775808
  | _ => True
def zcell (Y : ZW) (f i : Nat) (h : Nat → Int) : va_E := match (zfam f).1 with
  | 0 => .inr (f, (List.range (zfam f).2).map fun k => zfv Y ((zfld f).getD k (9, 0, 0)) i (h k))
  | 1 => .inl (zcA Y 1, (zfam f).2, .inl fun j => Int32.ofInt (h j))
  | 2 => .inl (zcA Y 2, (zfam f).2, .inl fun j => Int32.ofInt (h j))
  | 3 => .inl (zcA Y 3, (zfam f).2, .inl fun j => Int32.ofInt (h j))
  | 4 => .inl (zcA Y 4, (zfam f).2, .inr (.inl fun j => Int64.ofInt (h j)))
  | 5 => .inl (zcA Y 5, (zfam f).2, .inr (.inr (.inr (.inr fun j => some (zad Y 3 j)))))
  | _ => .inl (zcA Y 6, (zfam f).2, .inr (.inr (.inr (.inr fun j => some (zad Y 4 j)))))
def zws (Y : ZW) (g : ZG) : va_W := (zids Y).map fun q => (zad Y q.1 q.2, zcell Y q.1 q.2 (g q.1 q.2))
def zZ (Y : ZW) : Nat → Prop := fun a => ∃ q, q ∈ zids Y ∧ zad Y q.1 q.2 = a
/-- every place holds what it may -/
def zrg (Y : ZW) (g : ZG) : Prop := ∀ f i, (f, i) ∈ zids Y → ((zfam f).1 = 0 → ∀ k, k < (zfam f).2 → zfr Y ((zfld f).getD k (9, 0, 0)) i (g f i k)) ∧ ∀ k, k < (zfam f).2 → zar (zfam f).1 (g f i k)
/-- the cells are of the families; the rows of cells are whole -/
def zwf (Y : ZW) : Prop := ∀ f i, (f, i) ∈ zids Y → (zfam f).1 < 9 ∧ ((zfam f).1 = 5 → ∀ j, j < (zfam f).2 → (3, j) ∈ zids Y) ∧ ((zfam f).1 = 6 → ∀ j, j < (zfam f).2 → (4, j) ∈ zids Y)
def zH (Y : ZW) (g : ZG) (H : Heap) : Prop := va_P (zD Y) vwCl (zws Y g) H ∧ va_D (zZ Y) (zws Y g) ∧ zrg Y g
/-- static rows outside -/
def zxr (k : Nat) : List Int := match k with
  | 0 => [-1, 0, 0, 0, 1, 2, 3]
  | 1 => [0, 1, 21, 26, 34, 41, 51, 61, 67, 76, 81]
  | 10 => [109, 111, 115, 116, 32]
  | 11 => [100, 101, 97, 114, 32]
  | 12 => [119, 105, 115, 104, 32]
  | 13 => [112, 115, 107, 104, 102, 109]
  | 14 => [60, 61, 62]
  | _ => []
def zkT (k : Nat) : Nat × String := match k with
  | 0 => (48, "most ")
  | 1 => (50, "dear ")
  | 2 => (52, "wish ")
  | 3 => (80, "pskhfm")
  | _ => (86, "<=>")
def zxlen : List Nat := [5, 5, 5, 6, 3]
def zxbyt : List (List Int32) := [[109, 111, 115, 116, 32], [100, 101, 97, 114, 32], [119, 105, 115, 104, 32], [112, 115, 107, 104, 102, 109], [60, 61, 62]]
def zExt (Y : ZW) (s : State) (H : Heap) : Prop :=
  va_Z "ThirdAlike" "ABOVE" "[I" (.ref (zex Y 0)) (zZ Y) s H ∧ va_T .int (zex Y 0) 7 (fun j => .int (Int32.ofInt ((zxr 0).getD j 0))) (zZ Y) s H ∧
  va_Z "ThirdAlike" "WISHES_THAT_DIFFER" "[I" (.ref (zex Y 1)) (zZ Y) s H ∧ va_T .int (zex Y 1) 11 (fun j => .int (Int32.ofInt ((zxr 1).getD j 0))) (zZ Y) s H ∧
  vk_S 5 zxlen zxbyt (fun i => zex Y (10 + i)) (fun i => zex Y (20 + i)) (zZ Y) s H ∧
  (∀ i, i < 5 → vk_R "ThirdAlike$Text" (zkT i).1 (zkT i).2 (zex Y (10 + i)) s) ∧
  va_Z "java/lang/String" "COMPACT_STRINGS" "Z" (.int 1) (zZ Y) s H ∧ va_Zq "jdk/internal/util/Preconditions" "SIOOBE_FORMATTER" "Ljava/util/function/BiFunction;" (zZ Y) s H ∧
  (∀ (i : Nat) (y : MethodName), Cond.methodLinkNest "ThirdAlike" i y "ThirdAlike" ∈ tables_1 → va_Nw (.methodLinkNest "ThirdAlike" i y "ThirdAlike") s)
/-- a method: its class, its name, its code, its locals, its answer, its instructions, what its pool's entries are -/
abbrev ZPE : Type := (Nat × Nat) ⊕ ZV
abbrev ZM : Type := String × MethodName × ByteArray × Nat × Option FieldType × List (Option (Instr × Nat)) × (Nat → Option ZPE)
abbrev zown (M : ZM) : String := M.1
abbrev zy (M : ZM) : MethodName := M.2.1
abbrev zcc (M : ZM) : ByteArray := M.2.2.1
abbrev zn (M : ZM) : Nat := M.2.2.2.1
abbrev zret (M : ZM) : Option FieldType := M.2.2.2.2.1
abbrev zT (M : ZM) : List (Option (Instr × Nat)) := M.2.2.2.2.2.1
abbrev zPl (M : ZM) : Nat → Option ZPE := M.2.2.2.2.2.2
def zat (M : ZM) (pc : Nat) : Option (Instr × Nat) := (zT M).getD pc none
def zchk (b : ByteArray) : Nat → List (Option (Instr × Nat)) → Bool
  | _, [] => true
  | k, none :: r => zchk b (k + 1) r
  | k, some x :: r => (match decode b k with
    | .ok y => decide (y = x)
    | .error _ => false) && zchk b (k + 1) r
theorem zchk_at {b : ByteArray} : ∀ (T : List (Option (Instr × Nat))) (k pc : Nat) (x : Instr × Nat), zchk b k T = true → T.getD pc none = some x → decode b (k + pc) = .ok x := by
  intro T
  induction T with
  | nil => intro k pc x _ h; simp at h
  | cons o r ih =>
    intro k pc x h hx
    cases pc with
    | zero =>
      have hx : o = some x := by simpa using hx
      subst hx
      simp only [zchk, Bool.and_eq_true] at h
      cases hd : decode b k with
      | ok y => rw [hd] at h; simp only [decide_eq_true_eq] at h; rw [h.1]
      | error q => rw [hd] at h; simp at h
    | succ pc =>
      have hx : r.getD pc none = some x := by simpa using hx
      have h2 : zchk b (k + 1) r = true := by
        cases o with
        | none => exact h
        | some o => simp only [zchk, Bool.and_eq_true] at h; exact h.2
      have h3 := ih (k + 1) pc x h2 hx
      rw [show k + (pc + 1) = k + 1 + pc by omega]
      exact h3
def zPE (own : String) (idx : Nat) (e : ZPE) : Prop := match e with
  | .inl q => ∃ r : vw_C, vwCl[q.1]? = some r ∧ q.2 < r.2.2 ∧ Cond.fieldLink own idx r.1 (r.2.1 q.2).2.1 (r.2.1 q.2).2.2.1 ∈ zTB
  | .inr (.inr (.inl x)) => Cond.constantLong own idx (Int64.ofInt x) ∈ zTB ∧ -9223372036854775808 ≤ x ∧ x < 9223372036854775808
  | .inr (.inr (.inr (.inr k))) => (k = 0 ∧ Cond.fieldLink own idx "ThirdAlike" "ABOVE" "[I" ∈ zTB) ∨ (k = 1 ∧ Cond.fieldLink own idx "ThirdAlike" "WISHES_THAT_DIFFER" "[I" ∈ zTB) ∨ ∃ i, i < 5 ∧ k = 10 + i ∧ own = "ThirdAlike$Text" ∧ idx = (zkT i).1
  | _ => False
def zgood (M : ZM) : Prop := plainName (zy M).cls = true ∧ (zy M).cls = zown M ∧ Cond.code (zy M) (zcc M) (zn M) (zret M) ∈ zTB ∧ zchk (zcc M) 0 (zT M) = true ∧ ∀ idx e, zPl M idx = some e → zPE (zown M) idx e
def zrm (d : Nat) : Room := { frames := d, cells := 0, slots := 0, locals := 40 * d }
def zQ (Y : ZW) (Q : Option ZV → ZG → Prop) : Array Value → State → Outcome → State → Prop := fun _ st o t => (∃ (r : Option ZV) (g' : ZG), o = .returned (r.map (zval Y)) ∧ Q r g' ∧ (∀ v, r = some v → zok Y v) ∧ zH Y g' t.heap) ∧ va_F (zZ Y) st t
def zFx (Y : ZW) (M : ZM) (p : Program) (s : State) (m : MethodId) (args : Array Value) (meth : Method) (c : Code) : Prop :=
  zgood M ∧ zwf Y ∧ p.tables.exec = Jvm.exec ∧ c.code = zcc M ∧ c.maxLocals = zn M ∧ meth.sig.returnType = zret M ∧ meth.locks = false ∧ s.vm.findClass (zown M) = some m.cls ∧ (∀ w ∈ zTB, w.before args s = true) ∧ va_K (zD Y) vwCl (ztys Y) s ∧ zExt Y s s.heap
/-- the locals -/
def zLs (Y : ZW) (L : List ZV) (ls : Array Slot) (n : Nat) : Prop := ls.size = n ∧ lv_wf ls ∧ L.length = n ∧ ∀ (i : Nat) (v : ZV), L[i]? = some v → v ≠ ZX 99 → ls[i]? = some (.val (zval Y v)) ∧ zok Y v
def ZVV (Y : ZW) (M : ZM) (d : Nat) (Q : Option ZV → ZG → Prop) (pc : Nat) (L S : List ZV) (g : ZG) : Prop :=
  ∀ (p : Program) (l : Launch) (e : Env) (s : State) (m : MethodId) (args : Array Value) (below : List Frame) (meth : Method) (c : Code) (H : Heap) (locs : List Loc) (ls : Array Slot),
    zFx Y M p s m args meth c → zH Y g H → va_S (zZ Y) s.heap H locs → zLs Y L ls (zn M) → (∀ v, v ∈ S → zok Y v) →
    W p l e (zrm d) s m args below meth c H locs 0 0 (MQ below (zQ Y Q) args s 0 0 (zZ Y)) (F0 m pc ls (S.map (zval Y)))
end
section
/-! numbers -/
def zw (x : Int) : Int := x.bmod 4294967296
def zwl (x : Int) : Int := x.bmod 18446744073709551616
theorem zw_id {x : Int} (h1 : -2147483648 ≤ x) (h2 : x < 2147483648) : zw x = x := Int.bmod_eq_of_le (by omega) (by omega)
theorem zw_ok (x : Int) : -2147483648 ≤ zw x ∧ zw x < 2147483648 := by
  unfold zw
  have h1 := Int.le_bmod (x := x) (m := 4294967296) (by decide)
  have h2 := Int.bmod_lt (x := x) (m := 4294967296) (by decide)
  omega
theorem zwl_ok (x : Int) : -9223372036854775808 ≤ zwl x ∧ zwl x < 9223372036854775808 := by
  unfold zwl
  have h1 := Int.le_bmod (x := x) (m := 18446744073709551616) (by decide)
  have h2 := Int.bmod_lt (x := x) (m := 18446744073709551616) (by decide)
  omega
theorem zI_toInt {x : Int} (h : -2147483648 ≤ x ∧ x < 2147483648) : (Int32.ofInt x).toInt = x := Int32.toInt_ofInt_of_le (by omega) (by omega)
theorem zI_eq {v : Int32} {x : Int} (h : v.toInt = x) : Int32.ofInt x = v := by rw [← h, Int32.ofInt_toInt]
theorem zJ_toInt {x : Int} (h : -9223372036854775808 ≤ x ∧ x < 9223372036854775808) : (Int64.ofInt x).toInt = x := Int64.toInt_ofInt_of_le (by omega) (by omega)
theorem zJ_eq {v : Int64} {x : Int} (h : v.toInt = x) : Int64.ofInt x = v := by rw [← h, Int64.ofInt_toInt]
theorem zI_rng (v : Int32) : -2147483648 ≤ v.toInt ∧ v.toInt < 2147483648 := by
  have h1 := v.le_toInt; have h2 := v.toInt_lt; omega
theorem zJ_rng (v : Int64) : -9223372036854775808 ≤ v.toInt ∧ v.toInt < 9223372036854775808 := by
  have h1 := v.le_toInt; have h2 := v.toInt_lt; omega
theorem zI_wr (x : Int) : Int32.ofInt (zw x) = Int32.ofInt x := by
  apply Int32.toInt.inj
  rw [zI_toInt (zw_ok x), Int32.toInt_ofInt]; rfl
theorem zadd_v (x y : Int) : Int32.ofInt (zw (x + y)) = Int32.ofInt x + Int32.ofInt y := by rw [zI_wr, Int32.ofInt_add]
theorem zsub_v (x y : Int) : Int32.ofInt (zw (x - y)) = Int32.ofInt x - Int32.ofInt y := by rw [zI_wr, Int32.ofInt_sub]
theorem zmul_v (x y : Int) : Int32.ofInt (zw (x * y)) = Int32.ofInt x * Int32.ofInt y := by rw [zI_wr, Int32.ofInt_mul]
theorem zneg_v (x : Int) : Int32.ofInt (zw (-x)) = -Int32.ofInt x := by rw [zI_wr, Int32.ofInt_neg]
def zand (x y : Int) : Int := (Int32.ofInt x &&& Int32.ofInt y).toInt
def zor (x y : Int) : Int := (Int32.ofInt x ||| Int32.ofInt y).toInt
def zxor (x y : Int) : Int := (Int32.ofInt x ^^^ Int32.ofInt y).toInt
def zshl (x y : Int) : Int := (Int32.ofInt x <<< (Int32.ofInt y &&& 31)).toInt
def zshr (x y : Int) : Int := (Int32.ofInt x >>> (Int32.ofInt y &&& 31)).toInt
def zland (x y : Int) : Int := (Int64.ofInt x &&& Int64.ofInt y).toInt
def zlor (x y : Int) : Int := (Int64.ofInt x ||| Int64.ofInt y).toInt
def zlshl (x y : Int) : Int := (Int64.ofInt x <<< ((Int32.ofInt y).toInt64 &&& 63)).toInt
theorem zdiv_v {x y : Int} (hx : -2147483648 ≤ x ∧ x < 2147483648) (hy : -2147483648 ≤ y ∧ y < 2147483648) : Int32.ofInt (zw (x.tdiv y)) = Int32.ofInt x / Int32.ofInt y := by
  apply Int32.toInt.inj
  rw [zI_toInt (zw_ok _), Int32.toInt_div, zI_toInt hx, zI_toInt hy]; rfl
theorem zrem_v {x y : Int} (hx : -2147483648 ≤ x ∧ x < 2147483648) (hy : -2147483648 ≤ y ∧ y < 2147483648) : Int32.ofInt (x.tmod y) = Int32.ofInt x - Int32.ofInt x / Int32.ofInt y * Int32.ofInt y := by
  have h := zdiv_v hx hy
  rw [zI_wr] at h
  rw [← h, ← Int32.ofInt_mul, ← Int32.ofInt_sub]
  congr 1
  have := Int.tmod_add_mul_tdiv x y
  rw [Int.mul_comm] at this
  omega
theorem zrem_ok {x y : Int} (hx : -2147483648 ≤ x ∧ x < 2147483648) : -2147483648 ≤ x.tmod y ∧ x.tmod y < 2147483648 := by
  have h1 : (x.tmod y).natAbs ≤ x.natAbs := by
    rw [Int.natAbs_tmod]; exact Nat.mod_le _ _
  rcases Int.lt_or_le x 0 with h | h
  · have : x.tmod y ≤ 0 := by
      have := Int.tmod_nonneg y (a := -x) (by omega)
      rw [Int.neg_tmod] at this; omega
    omega
  · have := Int.tmod_nonneg y h
    omega
theorem zI_ne {y : Int} (hy : -2147483648 ≤ y ∧ y < 2147483648) (h : y ≠ 0) : ¬ Int32.ofInt y = 0 := by
  intro q
  have := congrArg Int32.toInt q
  rw [zI_toInt hy] at this
  exact h this
theorem zI_in {j : Int} {n : Nat} (hj : -2147483648 ≤ j ∧ j < 2147483648) (h0 : 0 ≤ j) (h1 : j < n) : vp_in (Int32.ofInt j) n ∧ (Int32.ofInt j).toNatClampNeg = j.toNat := by
  have e : (Int32.ofInt j).toNatClampNeg = j.toNat := Int32.toNatClampNeg_ofInt_of_le (by omega) (by omega)
  refine ⟨fun q => ?_, e⟩
  rcases q with q | q
  · have := Int32.lt_iff_toInt_lt.mp q
    rw [zI_toInt hj] at this
    have h00 : (0 : Int32).toInt = 0 := rfl
    omega
  · rw [e] at q; omega
/-! cells -/
theorem zws_at {Y : ZW} {g : ZG} {q : Nat} {x : Nat × Nat} (h : (zids Y)[q]? = some x) : (zws Y g)[q]? = some (zad Y x.1 x.2, zcell Y x.1 x.2 (g x.1 x.2)) := by
  unfold zws
  rw [List.getElem?_map, h]; rfl
theorem zws_set {Y : ZW} {g : ZG} {q f i k : Nat} {v : Int} {A : Nat → Prop} (hD : va_D A (zws Y g)) (h : (zids Y)[q]? = some (f, i)) : zws Y (zup g f i k v) = (zws Y g).set q (zad Y f i, zcell Y f i (zup g f i k v f i)) := by
  apply List.ext_getElem?
  intro j
  rw [List.getElem?_set]
  by_cases hj : q = j
  · subst hj
    rw [if_pos rfl, zws_at h]
    have hlt : q < (zids Y).length := (List.getElem?_eq_some_iff.mp h).1
    rw [if_pos (by unfold zws; rw [List.length_map]; exact hlt)]
  · rw [if_neg hj]
    cases hx : (zids Y)[j]? with
    | none => unfold zws; rw [List.getElem?_map, List.getElem?_map, hx]; rfl
    | some x =>
      rw [zws_at hx, zws_at hx]
      have hne : ¬ (x.1 = f ∧ x.2 = i) := by
        rintro ⟨rfl, rfl⟩
        exact hj (hD.1 q j _ _ (zws_at h) (zws_at hx) rfl)
      have : zup g f i k v x.1 x.2 = g x.1 x.2 := by
        funext c
        unfold zup
        rw [if_neg (fun z => hne ⟨z.1, z.2.1⟩)]
      rw [this]
theorem zup_at (g : ZG) (f i k : Nat) (v : Int) : zup g f i k v f i = fun c => if c = k then v else g f i c := by
  funext c; unfold zup; simp
theorem zrg_up {Y : ZW} {g : ZG} {f i k : Nat} {v : Int} (h : zrg Y g) (ho : (zfam f).1 = 0 → zfr Y ((zfld f).getD k (9, 0, 0)) i v) (ha : k < (zfam f).2 → zar (zfam f).1 v) : zrg Y (zup g f i k v) := by
  intro a b hab
  obtain ⟨h1, h2⟩ := h a b hab
  refine ⟨fun h0 c hc => ?_, fun c hc => ?_⟩
  · unfold zup
    by_cases hq : a = f ∧ b = i ∧ c = k
    · rw [if_pos hq]
      obtain ⟨rfl, rfl, rfl⟩ := hq
      exact ho h0
    · rw [if_neg hq]; exact h1 h0 c hc
  · unfold zup
    by_cases hq : a = f ∧ b = i ∧ c = k
    · rw [if_pos hq]
      obtain ⟨rfl, rfl, rfl⟩ := hq
      exact ha hc
    · rw [if_neg hq]; exact h2 c hc
/-! the locals as the kit's list -/
def zlv (Y : ZW) (L : List ZV) : List (Nat × Value) := (List.range L.length).filterMap fun i => match L[i]? with
  | some v => if v = ZX 99 then none else some (i, zval Y v)
  | none => none
theorem zlv_in {Y : ZW} {L : List ZV} {q : Nat × Value} : q ∈ zlv Y L ↔ ∃ v, L[q.1]? = some v ∧ v ≠ ZX 99 ∧ q.2 = zval Y v := by
  unfold zlv
  rw [List.mem_filterMap]
  constructor
  · rintro ⟨i, hi, h⟩
    cases hv : L[i]? with
    | none => rw [hv] at h; cases h
    | some v =>
      rw [hv] at h
      by_cases hz : v = ZX 99
      · simp [hz] at h
      · simp only [hz, if_false, Option.some.injEq] at h
        subst h
        exact ⟨v, hv, hz, rfl⟩
  · rintro ⟨v, h1, h2, h3⟩
    refine ⟨q.1, List.mem_range.mpr (List.getElem?_eq_some_iff.mp h1).1, ?_⟩
    rw [h1]
    simp only [h2, if_false]
    rw [← h3]
theorem zLs.lv {Y : ZW} {L : List ZV} {ls : Array Slot} {n : Nat} (h : zLs Y L ls n) : lv_has ls n (zlv Y L) := by
  refine ⟨h.1, h.2.1, fun q hq => ?_⟩
  obtain ⟨v, h1, h2, h3⟩ := zlv_in.mp hq
  rw [h3]
  exact (h.2.2.2 q.1 v h1 h2).1
theorem zval_cat (Y : ZW) (v : ZV) : (zval Y v).category = (match v with | .inr (.inl _) => 2 | _ => 1) := by
  rcases v with x | x | x | x <;> rfl
/-- behind a store of a value of one slot -/
theorem zLs.set1 {Y : ZW} {L : List ZV} {ls ls' : Array Slot} {n i : Nat} {v : ZV} (h : zLs Y L ls n) (hi : i < n) (hv : zok Y v) (hp : ∀ j x, j + 1 = i → L[j]? ≠ some (ZJ x))
    (h' : lv_has ls' n ((i, zval Y v) :: (zlv Y L).filter (fun q => !(q.1 == i) && !(q.1 + 1 == i && q.2.category == 2)))) : zLs Y (L.set i v) ls' n := by
  refine ⟨h'.1, h'.2.1, by rw [List.length_set]; exact h.2.2.1, fun j u hj hu => ?_⟩
  rw [List.getElem?_set] at hj
  by_cases hij : i = j
  · subst hij
    rw [if_pos rfl] at hj
    by_cases hl : i < L.length
    · rw [if_pos hl] at hj
      cases hj
      exact ⟨h'.2.2 (i, zval Y v) List.mem_cons_self, hv⟩
    · rw [if_neg hl] at hj; cases hj
  · rw [if_neg hij] at hj
    refine ⟨?_, (h.2.2.2 j u hj hu).2⟩
    refine h'.2.2 (j, zval Y u) (List.mem_cons_of_mem _ (List.mem_filter.mpr ⟨zlv_in.mpr ⟨u, hj, hu, rfl⟩, ?_⟩))
    simp only [Bool.and_eq_true, Bool.not_eq_true', beq_eq_false_iff_ne, ne_eq, Bool.and_eq_false_iff]
    refine ⟨fun q => hij q.symm, ?_⟩
    by_cases hq : j + 1 = i
    · right
      intro hc
      rcases u with x | x | x | x
      · cases hc
      · exact hp j x hq hj
      · cases hc
      · cases hc
    · exact Or.inl hq
theorem zLs.set2 {Y : ZW} {L : List ZV} {ls ls' : Array Slot} {n i : Nat} {x : Int} (h : zLs Y L ls n) (hi : i + 1 < n) (hv : zok Y (ZJ x)) (hp : ∀ j x, j + 1 = i → L[j]? ≠ some (ZJ x))
    (h' : lv_has ls' n ((i, Value.long (Int64.ofInt x)) :: (zlv Y L).filter (fun q => !(q.1 == i) && (!(q.1 == i + 1) && !(q.1 + 1 == i && q.2.category == 2))))) : zLs Y ((L.set i (ZJ x)).set (i + 1) (ZX 99)) ls' n := by
  refine ⟨h'.1, h'.2.1, by rw [List.length_set, List.length_set]; exact h.2.2.1, fun j u hj hu => ?_⟩
  rw [List.getElem?_set] at hj
  by_cases h1 : i + 1 = j
  · subst h1
    rw [if_pos rfl] at hj
    split at hj
    · cases hj; exact absurd rfl hu
    · cases hj
  · rw [if_neg h1, List.getElem?_set] at hj
    by_cases hij : i = j
    · subst hij
      rw [if_pos rfl] at hj
      split at hj
      · cases hj
        exact ⟨h'.2.2 (i, Value.long (Int64.ofInt x)) List.mem_cons_self, hv⟩
      · cases hj
    · rw [if_neg hij] at hj
      refine ⟨?_, (h.2.2.2 j u hj hu).2⟩
      refine h'.2.2 (j, zval Y u) (List.mem_cons_of_mem _ (List.mem_filter.mpr ⟨zlv_in.mpr ⟨u, hj, hu, rfl⟩, ?_⟩))
      simp only [Bool.and_eq_true, Bool.not_eq_true', beq_eq_false_iff_ne, ne_eq, Bool.and_eq_false_iff]
      refine ⟨fun q => hij q.symm, fun q => h1 q.symm, ?_⟩
      by_cases hq : j + 1 = i
      · right
        intro hc
        rcases u with x | x | x | x
        · cases hc
        · exact hp j x hq hj
        · cases hc
        · cases hc
      · exact Or.inl hq
end
section
/-! classes -/
def ztag (t : Nat × Nat × Nat) (C : String) (x : String × String × String × Bool) : Prop := x.1 = C ∧ match t.1 with
  | 0 => x.2.2.2 = false ∧ parseFieldDescriptor x.2.2.1 = some .int
  | 1 => x.2.2.2 = false ∧ parseFieldDescriptor x.2.2.1 = some .boolean
  | 5 => x.2.2.2 = false ∧ parseFieldDescriptor x.2.2.1 = some (.object "ThirdAlike$Street")
  | 6 => x.2.2.2 = false ∧ parseFieldDescriptor x.2.2.1 = some (.object "ThirdAlike$Street")
  | _ => x.2.2.2 = true
def ztagB (t : Nat × Nat × Nat) (C : String) (x : String × String × String × Bool) : Bool := decide (x.1 = C) && match t.1 with
  | 0 => !x.2.2.2 && decide (parseFieldDescriptor x.2.2.1 = some .int)
  | 1 => !x.2.2.2 && decide (parseFieldDescriptor x.2.2.1 = some .boolean)
  | 5 => !x.2.2.2 && decide (parseFieldDescriptor x.2.2.1 = some (.object "ThirdAlike$Street"))
  | 6 => !x.2.2.2 && decide (parseFieldDescriptor x.2.2.1 = some (.object "ThirdAlike$Street"))
  | _ => x.2.2.2
theorem ztag_of {t : Nat × Nat × Nat} {C : String} {x : String × String × String × Bool} (h : ztagB t C x = true) : ztag t C x := by
  unfold ztagB at h
  unfold ztag
  simp only [Bool.and_eq_true, decide_eq_true_eq] at h
  refine ⟨h.1, ?_⟩
  have h2 := h.2
  split at h2 <;> simp_all
def zclOK (f : Nat) (r : vw_C) : Prop := (∀ w ∈ u_ws r.1 r.2.1 r.2.2, w ∈ zTB) ∧ (∃ ty : Nat → FieldType, ∀ k, k < r.2.2 → parseFieldDescriptor (r.2.1 k).2.2.1 = some (ty k)) ∧ (∀ a, a < r.2.2 → ∀ b, b < r.2.2 → a ≠ b → (r.2.1 a).2.1 ≠ (r.2.1 b).2.1) ∧ zfam f = (0, r.2.2) ∧ ∀ k, k < r.2.2 → ztag ((zfld f).getD k (9, 0, 0)) r.1 (r.2.1 k)
theorem zin_of {ws : List Cond} (h : ws.all (fun w => tables_1.contains w && goodWord w) = true) : ∀ w ∈ ws, w ∈ zTB := fun w hw => by
  have h1 := List.all_eq_true.mp h w hw
  simp only [Bool.and_eq_true] at h1
  exact List.mem_filter.mpr ⟨List.mem_append_right _ (List.contains_iff_mem.mp h1.1), h1.2⟩
theorem zcl_0 : zclOK 0 (RX0, TX0, 5) := ⟨zin_of (by decide +kernel), ⟨tyX0, tyX0_ok⟩, nmX0, rfl, fun k hk => ztag_of ((by decide +kernel : ∀ k, k < 5 → ztagB ((zfld 0).getD k (9, 0, 0)) RX0 (TX0 k) = true) k hk)⟩
theorem zcl_1 : zclOK 1 (RX1, TX1, 9) := ⟨zin_of (by decide +kernel), ⟨tyX1, tyX1_ok⟩, nmX1, rfl, fun k hk => ztag_of ((by decide +kernel : ∀ k, k < 9 → ztagB ((zfld 1).getD k (9, 0, 0)) RX1 (TX1 k) = true) k hk)⟩
theorem zcl_2 : zclOK 2 (RX2, TX2, 12) := ⟨zin_of (by decide +kernel), ⟨tyX2, tyX2_ok⟩, nmX2, rfl, fun k hk => ztag_of ((by decide +kernel : ∀ k, k < 12 → ztagB ((zfld 2).getD k (9, 0, 0)) RX2 (TX2 k) = true) k hk)⟩
theorem zcl_3 : zclOK 3 (RX3, TX3, 3) := ⟨zin_of (by decide +kernel), ⟨tyX3, tyX3_ok⟩, nmX3, rfl, fun k hk => ztag_of ((by decide +kernel : ∀ k, k < 3 → ztagB ((zfld 3).getD k (9, 0, 0)) RX3 (TX3 k) = true) k hk)⟩
theorem zcl_4 : zclOK 4 (RX4, TX4, 3) := ⟨zin_of (by decide +kernel), ⟨tyX4, tyX4_ok⟩, nmX4, rfl, fun k hk => ztag_of ((by decide +kernel : ∀ k, k < 3 → ztagB ((zfld 4).getD k (9, 0, 0)) RX4 (TX4 k) = true) k hk)⟩
theorem zcl_5 : zclOK 5 (RX5, TX5, 6) := ⟨zin_of (by decide +kernel), ⟨tyX5, tyX5_ok⟩, nmX5, rfl, fun k hk => ztag_of ((by decide +kernel : ∀ k, k < 6 → ztagB ((zfld 5).getD k (9, 0, 0)) RX5 (TX5 k) = true) k hk)⟩
theorem zcl_6 : zclOK 6 (RX6, TX6, 4) := ⟨zin_of (by decide +kernel), ⟨tyX6, tyX6_ok⟩, nmX6, rfl, fun k hk => ztag_of ((by decide +kernel : ∀ k, k < 4 → ztagB ((zfld 6).getD k (9, 0, 0)) RX6 (TX6 k) = true) k hk)⟩
theorem zcl_7 : zclOK 7 (RX7, TX7, 10) := ⟨zin_of (by decide +kernel), ⟨tyX7, tyX7_ok⟩, nmX7, rfl, fun k hk => ztag_of ((by decide +kernel : ∀ k, k < 10 → ztagB ((zfld 7).getD k (9, 0, 0)) RX7 (TX7 k) = true) k hk)⟩
theorem zcl_8 : zclOK 8 (RX8, TX8, 52) := ⟨zin_of (by decide +kernel), ⟨tyX8, tyX8_ok⟩, nmX8, rfl, fun k hk => ztag_of ((by decide +kernel : ∀ k, k < 52 → ztagB ((zfld 8).getD k (9, 0, 0)) RX8 (TX8 k) = true) k hk)⟩
theorem zcl_all {f : Nat} {r : vw_C} (h : vwCl[f]? = some r) : zclOK f r := by
  match f, h with
  | 0, h => cases h; exact zcl_0
  | 1, h => cases h; exact zcl_1
  | 2, h => cases h; exact zcl_2
  | 3, h => cases h; exact zcl_3
  | 4, h => cases h; exact zcl_4
  | 5, h => cases h; exact zcl_5
  | 6, h => cases h; exact zcl_6
  | 7, h => cases h; exact zcl_7
  | 8, h => cases h; exact zcl_8
  | k + 9, h => simp [vwCl] at h
theorem zinT {c : Cond} (i : Nat) (h : tables_1[i]? = some c) (hg : goodWord c = true) : c ∈ zTB := List.mem_filter.mpr ⟨List.mem_append_right _ (List.mem_of_getElem? h), hg⟩
theorem zinP {c : Cond} (i : Nat) (h : (k2_sels lw_privs)[i]? = some c) (hg : goodWord c = true) : c ∈ zTB := List.mem_filter.mpr ⟨List.mem_append_left _ (List.mem_of_getElem? h), hg⟩
theorem zfx_dec {Y : ZW} {M : ZM} {p : Program} {s : State} {m : MethodId} {args : Array Value} {meth : Method} {c : Code} (F : zFx Y M p s m args meth c) {pc : Nat} {x : Instr × Nat} (h : zat M pc = some x) : decode (zcc M) pc = .ok x := by
  have h1 := zchk_at (zT M) 0 pc x F.1.2.2.2.1 h
  rwa [Nat.zero_add] at h1
theorem zok_cons {Y : ZW} {v : ZV} {S : List ZV} : (∀ u, u ∈ v :: S → zok Y u) ↔ zok Y v ∧ ∀ u, u ∈ S → zok Y u := List.forall_mem_cons
section ZS
variable {Y : ZW} {M : ZM} {d : Nat} {Q : Option ZV → ZG → Prop} {pc : Nat} {L S : List ZV} {g : ZG}
/-- what a place of the walk knows -/
theorem zs_know (k : zwf Y → zrg Y g → (∀ v, v ∈ S → zok Y v) → (∀ (i : Nat) (v : ZV), L[i]? = some v → v ≠ ZX 99 → zok Y v) → ZVV Y M d Q pc L S g) : ZVV Y M d Q pc L S g := by
  intro p l e s m args below meth c H locs ls F hH hS hL hO
  exact k F.2.1 hH.2.2 hO (fun i v h1 h2 => (hL.2.2.2 i v h1 h2).2) p l e s m args below meth c H locs ls F hH hS hL hO
theorem zs_iconst {n : Int} (hT : zat M pc = some (.iconst n, 1)) (hn : -2 < n ∧ n < 6) (k : ZVV Y M d Q (pc + 1) L (ZI n :: S) g) : ZVV Y M d Q pc L S g := by
  intro p l e s m args below meth c H locs ls F hH hS hL hO
  have hx := F.2.2.1
  have hb := F.2.2.2.1
  refine lv_iconst hx hb (zfx_dec F hT) rfl ?_
  exact k p l e s m args below meth c H locs ls F hH hS hL (zok_cons.mpr ⟨⟨by omega, by omega⟩, hO⟩)
theorem zs_bipush {n : Int} (hT : zat M pc = some (.bipush n, 2)) (hn : -128 ≤ n ∧ n < 128) (k : ZVV Y M d Q (pc + 2) L (ZI n :: S) g) : ZVV Y M d Q pc L S g := by
  intro p l e s m args below meth c H locs ls F hH hS hL hO
  have hx := F.2.2.1
  have hb := F.2.2.2.1
  refine lv_bipush hx hb (v := Int32.ofInt n) (zfx_dec F hT) ?_ (k p l e s m args below meth c H locs ls F hH hS hL (zok_cons.mpr ⟨⟨by omega, by omega⟩, hO⟩))
  apply Int32.toInt.inj
  rw [Int8.toInt_toInt32, Int8.toInt_ofInt_of_le (by omega) (by omega), zI_toInt ⟨by omega, by omega⟩]
theorem zs_sipush {n : Int} (hT : zat M pc = some (.sipush n, 3)) (hn : -32768 ≤ n ∧ n < 32768) (k : ZVV Y M d Q (pc + 3) L (ZI n :: S) g) : ZVV Y M d Q pc L S g := by
  intro p l e s m args below meth c H locs ls F hH hS hL hO
  have hx := F.2.2.1
  have hb := F.2.2.2.1
  refine lv_sipush hx hb (v := Int32.ofInt n) (zfx_dec F hT) ?_ (k p l e s m args below meth c H locs ls F hH hS hL (zok_cons.mpr ⟨⟨by omega, by omega⟩, hO⟩))
  apply Int32.toInt.inj
  rw [Int16.toInt_toInt32, Int16.toInt_ofInt_of_le (by omega) (by omega), zI_toInt ⟨by omega, by omega⟩]
theorem zs_lconst {n : Fin 2} (hT : zat M pc = some (.lconst n, 1)) (k : ZVV Y M d Q (pc + 1) L (ZJ (n.val : Int) :: S) g) : ZVV Y M d Q pc L S g := by
  intro p l e s m args below meth c H locs ls F hH hS hL hO
  have hx := F.2.2.1
  have hb := F.2.2.2.1
  refine lv_lconst hx hb (v := Int64.ofInt (n.val : Int)) (zfx_dec F hT) (Int64.ofInt_eq_ofNat).symm ?_
  exact k p l e s m args below meth c H locs ls F hH hS hL (zok_cons.mpr ⟨⟨by omega, by omega⟩, hO⟩)
theorem zs_iload_n {x : Int} {j : Fin 4} {i : Nat} (hT : zat M pc = some (.iload_n j, 1)) (hj : (j : Nat) = i) (hi : L[i]? = some (ZI x)) (k : ZVV Y M d Q (pc + 1) L (ZI x :: S) g) : ZVV Y M d Q pc L S g := by
  intro p l e s m args below meth c H locs ls F hH hS hL hO
  have hx := F.2.2.1
  have hb := F.2.2.2.1
  refine lv_iload_n hx hb (zfx_dec F hT) hj (hL.2.2.2 i _ hi (by intro z; cases z)).1 ?_
  exact k p l e s m args below meth c H locs ls F hH hS hL (zok_cons.mpr ⟨(hL.2.2.2 i _ hi (by intro z; cases z)).2, hO⟩)
theorem zs_iload {x : Int} {i : Nat} (hT : zat M pc = some (.iload i, 2)) (hi : L[i]? = some (ZI x)) (k : ZVV Y M d Q (pc + 2) L (ZI x :: S) g) : ZVV Y M d Q pc L S g := by
  intro p l e s m args below meth c H locs ls F hH hS hL hO
  have hx := F.2.2.1
  have hb := F.2.2.2.1
  refine lv_iload hx hb (zfx_dec F hT) (hL.2.2.2 i _ hi (by intro z; cases z)).1 ?_
  exact k p l e s m args below meth c H locs ls F hH hS hL (zok_cons.mpr ⟨(hL.2.2.2 i _ hi (by intro z; cases z)).2, hO⟩)
theorem zs_lload_n {x : Int} {j : Fin 4} {i : Nat} (hT : zat M pc = some (.lload_n j, 1)) (hj : (j : Nat) = i) (hi : L[i]? = some (ZJ x)) (k : ZVV Y M d Q (pc + 1) L (ZJ x :: S) g) : ZVV Y M d Q pc L S g := by
  intro p l e s m args below meth c H locs ls F hH hS hL hO
  have hx := F.2.2.1
  have hb := F.2.2.2.1
  refine lv_lload_n hx hb (zfx_dec F hT) hj (hL.2.2.2 i _ hi (by intro z; cases z)).1 ?_
  exact k p l e s m args below meth c H locs ls F hH hS hL (zok_cons.mpr ⟨(hL.2.2.2 i _ hi (by intro z; cases z)).2, hO⟩)
theorem zs_lload {x : Int} {i : Nat} (hT : zat M pc = some (.lload i, 2)) (hi : L[i]? = some (ZJ x)) (k : ZVV Y M d Q (pc + 2) L (ZJ x :: S) g) : ZVV Y M d Q pc L S g := by
  intro p l e s m args below meth c H locs ls F hH hS hL hO
  have hx := F.2.2.1
  have hb := F.2.2.2.1
  refine lv_lload hx hb (zfx_dec F hT) (hL.2.2.2 i _ hi (by intro z; cases z)).1 ?_
  exact k p l e s m args below meth c H locs ls F hH hS hL (zok_cons.mpr ⟨(hL.2.2.2 i _ hi (by intro z; cases z)).2, hO⟩)
theorem zs_aload_n {f q : Nat} {j : Fin 4} {i : Nat} (hT : zat M pc = some (.aload_n j, 1)) (hj : (j : Nat) = i) (hi : L[i]? = some (ZR f q)) (k : ZVV Y M d Q (pc + 1) L (ZR f q :: S) g) : ZVV Y M d Q pc L S g := by
  intro p l e s m args below meth c H locs ls F hH hS hL hO
  have hx := F.2.2.1
  have hb := F.2.2.2.1
  refine lv_aload_n hx hb (zfx_dec F hT) hj (hL.2.2.2 i _ hi (by intro z; cases z)).1 ?_
  exact k p l e s m args below meth c H locs ls F hH hS hL (zok_cons.mpr ⟨(hL.2.2.2 i _ hi (by intro z; cases z)).2, hO⟩)
theorem zs_aload {f q : Nat} {i : Nat} (hT : zat M pc = some (.aload i, 2)) (hi : L[i]? = some (ZR f q)) (k : ZVV Y M d Q (pc + 2) L (ZR f q :: S) g) : ZVV Y M d Q pc L S g := by
  intro p l e s m args below meth c H locs ls F hH hS hL hO
  have hx := F.2.2.1
  have hb := F.2.2.2.1
  refine lv_aload hx hb (zfx_dec F hT) (hL.2.2.2 i _ hi (by intro z; cases z)).1 ?_
  exact k p l e s m args below meth c H locs ls F hH hS hL (zok_cons.mpr ⟨(hL.2.2.2 i _ hi (by intro z; cases z)).2, hO⟩)
theorem zs_xload_n {q : Nat} {j : Fin 4} {i : Nat} (hT : zat M pc = some (.aload_n j, 1)) (hj : (j : Nat) = i) (hi : L[i]? = some (ZX q)) (hq : q < 50) (k : ZVV Y M d Q (pc + 1) L (ZX q :: S) g) : ZVV Y M d Q pc L S g := by
  intro p l e s m args below meth c H locs ls F hH hS hL hO
  have hx := F.2.2.1
  have hb := F.2.2.2.1
  refine lv_aload_n hx hb (zfx_dec F hT) hj (hL.2.2.2 i _ hi (by intro z; cases z; exact absurd hq (by decide))).1 ?_
  exact k p l e s m args below meth c H locs ls F hH hS hL (zok_cons.mpr ⟨trivial, hO⟩)
theorem zs_xload {q : Nat} {i : Nat} (hT : zat M pc = some (.aload i, 2)) (hi : L[i]? = some (ZX q)) (hq : q < 50) (k : ZVV Y M d Q (pc + 2) L (ZX q :: S) g) : ZVV Y M d Q pc L S g := by
  intro p l e s m args below meth c H locs ls F hH hS hL hO
  have hx := F.2.2.1
  have hb := F.2.2.2.1
  refine lv_aload hx hb (zfx_dec F hT) (hL.2.2.2 i _ hi (by intro z; cases z; exact absurd hq (by decide))).1 ?_
  exact k p l e s m args below meth c H locs ls F hH hS hL (zok_cons.mpr ⟨trivial, hO⟩)
theorem zs_istore_n {x : Int} {j : Fin 4} {i : Nat} (hT : zat M pc = some (.istore_n j, 1)) (hj : (j : Nat) = i) (hi : i < zn M) (hp : ∀ r x, r + 1 = i → L[r]? ≠ some (ZJ x)) (k : ZVV Y M d Q (pc + 1) (L.set i (ZI x)) S g) : ZVV Y M d Q pc L (ZI x :: S) g := by
  intro p l e s m args below meth c H locs ls F hH hS hL hO
  have hx := F.2.2.1
  have hb := F.2.2.2.1
  refine lv_istore_n hx hb (zfx_dec F hT) hj hL.lv hi rfl (fun ls' h' => ?_)
  exact k p l e s m args below meth c H locs ls' F hH hS (hL.set1 hi (zok_cons.mp hO).1 hp h') (zok_cons.mp hO).2
theorem zs_istore {x : Int} {i : Nat} (hT : zat M pc = some (.istore i, 2)) (hi : i < zn M) (hp : ∀ r x, r + 1 = i → L[r]? ≠ some (ZJ x)) (k : ZVV Y M d Q (pc + 2) (L.set i (ZI x)) S g) : ZVV Y M d Q pc L (ZI x :: S) g := by
  intro p l e s m args below meth c H locs ls F hH hS hL hO
  have hx := F.2.2.1
  have hb := F.2.2.2.1
  refine lv_istore hx hb (zfx_dec F hT) hL.lv hi rfl (fun ls' h' => ?_)
  exact k p l e s m args below meth c H locs ls' F hH hS (hL.set1 hi (zok_cons.mp hO).1 hp h') (zok_cons.mp hO).2
theorem zs_astore_n {f q : Nat} {j : Fin 4} {i : Nat} (hT : zat M pc = some (.astore_n j, 1)) (hj : (j : Nat) = i) (hi : i < zn M) (hp : ∀ r x, r + 1 = i → L[r]? ≠ some (ZJ x)) (k : ZVV Y M d Q (pc + 1) (L.set i (ZR f q)) S g) : ZVV Y M d Q pc L (ZR f q :: S) g := by
  intro p l e s m args below meth c H locs ls F hH hS hL hO
  have hx := F.2.2.1
  have hb := F.2.2.2.1
  refine lv_astore_n hx hb (zfx_dec F hT) hj hL.lv hi rfl (fun ls' h' => ?_)
  exact k p l e s m args below meth c H locs ls' F hH hS (hL.set1 hi (zok_cons.mp hO).1 hp h') (zok_cons.mp hO).2
theorem zs_astore {f q : Nat} {i : Nat} (hT : zat M pc = some (.astore i, 2)) (hi : i < zn M) (hp : ∀ r x, r + 1 = i → L[r]? ≠ some (ZJ x)) (k : ZVV Y M d Q (pc + 2) (L.set i (ZR f q)) S g) : ZVV Y M d Q pc L (ZR f q :: S) g := by
  intro p l e s m args below meth c H locs ls F hH hS hL hO
  have hx := F.2.2.1
  have hb := F.2.2.2.1
  refine lv_astore hx hb (zfx_dec F hT) hL.lv hi rfl (fun ls' h' => ?_)
  exact k p l e s m args below meth c H locs ls' F hH hS (hL.set1 hi (zok_cons.mp hO).1 hp h') (zok_cons.mp hO).2
theorem zs_xstore_n {q : Nat} {j : Fin 4} {i : Nat} (hT : zat M pc = some (.astore_n j, 1)) (hj : (j : Nat) = i) (hi : i < zn M) (hp : ∀ r x, r + 1 = i → L[r]? ≠ some (ZJ x)) (k : ZVV Y M d Q (pc + 1) (L.set i (ZX q)) S g) : ZVV Y M d Q pc L (ZX q :: S) g := by
  intro p l e s m args below meth c H locs ls F hH hS hL hO
  have hx := F.2.2.1
  have hb := F.2.2.2.1
  refine lv_astore_n hx hb (zfx_dec F hT) hj hL.lv hi rfl (fun ls' h' => ?_)
  exact k p l e s m args below meth c H locs ls' F hH hS (hL.set1 hi (zok_cons.mp hO).1 hp h') (zok_cons.mp hO).2
theorem zs_xstore {q : Nat} {i : Nat} (hT : zat M pc = some (.astore i, 2)) (hi : i < zn M) (hp : ∀ r x, r + 1 = i → L[r]? ≠ some (ZJ x)) (k : ZVV Y M d Q (pc + 2) (L.set i (ZX q)) S g) : ZVV Y M d Q pc L (ZX q :: S) g := by
  intro p l e s m args below meth c H locs ls F hH hS hL hO
  have hx := F.2.2.1
  have hb := F.2.2.2.1
  refine lv_astore hx hb (zfx_dec F hT) hL.lv hi rfl (fun ls' h' => ?_)
  exact k p l e s m args below meth c H locs ls' F hH hS (hL.set1 hi (zok_cons.mp hO).1 hp h') (zok_cons.mp hO).2
theorem zs_lstore_n {x : Int} {j : Fin 4} {i : Nat} (hT : zat M pc = some (.lstore_n j, 1)) (hj : (j : Nat) = i) (hi : i + 1 < zn M) (hp : ∀ r x, r + 1 = i → L[r]? ≠ some (ZJ x)) (k : ZVV Y M d Q (pc + 1) ((L.set i (ZJ x)).set (i + 1) (ZX 99)) S g) : ZVV Y M d Q pc L (ZJ x :: S) g := by
  intro p l e s m args below meth c H locs ls F hH hS hL hO
  have hx := F.2.2.1
  have hb := F.2.2.2.1
  refine lv_lstore_n hx hb (zfx_dec F hT) hj hL.lv hi rfl (fun ls' h' => ?_)
  exact k p l e s m args below meth c H locs ls' F hH hS (hL.set2 hi (zok_cons.mp hO).1 hp h') (zok_cons.mp hO).2
theorem zs_lstore {x : Int} {i : Nat} (hT : zat M pc = some (.lstore i, 2)) (hi : i + 1 < zn M) (hp : ∀ r x, r + 1 = i → L[r]? ≠ some (ZJ x)) (k : ZVV Y M d Q (pc + 2) ((L.set i (ZJ x)).set (i + 1) (ZX 99)) S g) : ZVV Y M d Q pc L (ZJ x :: S) g := by
  intro p l e s m args below meth c H locs ls F hH hS hL hO
  have hx := F.2.2.1
  have hb := F.2.2.2.1
  refine lv_lstore hx hb (zfx_dec F hT) hL.lv hi rfl (fun ls' h' => ?_)
  exact k p l e s m args below meth c H locs ls' F hH hS (hL.set2 hi (zok_cons.mp hO).1 hp h') (zok_cons.mp hO).2
theorem zs_iinc {x n : Int} {i : Nat} (hT : zat M pc = some (.iinc i n, 3)) (hi : L[i]? = some (ZI x)) (hp : ∀ r x, r + 1 = i → L[r]? ≠ some (ZJ x)) (k : ZVV Y M d Q (pc + 3) (L.set i (ZI (zw (x + n)))) S g) : ZVV Y M d Q pc L S g := by
  intro p l e s m args below meth c H locs ls F hH hS hL hO
  have hx := F.2.2.1
  have hb := F.2.2.2.1
  have hlt : i < zn M := by rw [← hL.2.2.1]; exact (List.getElem?_eq_some_iff.mp hi).1
  obtain ⟨q, hq⟩ := List.getElem?_of_mem (zlv_in (Y := Y) (L := L) (q := (i, .int (Int32.ofInt x))) |>.mpr ⟨ZI x, hi, (by intro z; cases z), rfl⟩)
  refine lv_iinc (v := Int32.ofInt (zw (x + n))) hx hb (zfx_dec F hT) hL.lv hq (zadd_v x n).symm hlt rfl (fun ls' h' => ?_)
  exact k p l e s m args below meth c H locs ls' F hH hS (hL.set1 hlt (zw_ok _) hp h') hO
theorem zs_iadd {x y : Int} (hT : zat M pc = some (.iadd, 1)) (k : ZVV Y M d Q (pc + 1) L (ZI (zw (x + y)) :: S) g) : ZVV Y M d Q pc L (ZI y :: ZI x :: S) g := by
  intro p l e s m args below meth c H locs ls F hH hS hL hO
  have hx := F.2.2.1
  have hb := F.2.2.2.1
  have hO1 := zok_cons.mp hO
  have hO2 := zok_cons.mp hO1.2
  have hk := k p l e s m args below meth c H locs ls F hH hS hL (zok_cons.mpr ⟨zw_ok _, hO2.2⟩)
  refine lv_iadd hx hb (zfx_dec F hT) ?_
  have e1 : zval Y (ZI (zw (x + y))) = .int (Int32.ofInt x + Int32.ofInt y) := congrArg Value.int (zadd_v x y)
  rw [List.map_cons, e1] at hk
  exact hk
theorem zs_isub {x y : Int} (hT : zat M pc = some (.isub, 1)) (k : ZVV Y M d Q (pc + 1) L (ZI (zw (x - y)) :: S) g) : ZVV Y M d Q pc L (ZI y :: ZI x :: S) g := by
  intro p l e s m args below meth c H locs ls F hH hS hL hO
  have hx := F.2.2.1
  have hb := F.2.2.2.1
  have hO1 := zok_cons.mp hO
  have hO2 := zok_cons.mp hO1.2
  have hk := k p l e s m args below meth c H locs ls F hH hS hL (zok_cons.mpr ⟨zw_ok _, hO2.2⟩)
  refine lv_isub hx hb (zfx_dec F hT) ?_
  have e1 : zval Y (ZI (zw (x - y))) = .int (Int32.ofInt x - Int32.ofInt y) := congrArg Value.int (zsub_v x y)
  rw [List.map_cons, e1] at hk
  exact hk
theorem zs_imul {x y : Int} (hT : zat M pc = some (.imul, 1)) (k : ZVV Y M d Q (pc + 1) L (ZI (zw (x * y)) :: S) g) : ZVV Y M d Q pc L (ZI y :: ZI x :: S) g := by
  intro p l e s m args below meth c H locs ls F hH hS hL hO
  have hx := F.2.2.1
  have hb := F.2.2.2.1
  have hO1 := zok_cons.mp hO
  have hO2 := zok_cons.mp hO1.2
  have hk := k p l e s m args below meth c H locs ls F hH hS hL (zok_cons.mpr ⟨zw_ok _, hO2.2⟩)
  refine lv_imul hx hb (zfx_dec F hT) ?_
  have e1 : zval Y (ZI (zw (x * y))) = .int (Int32.ofInt x * Int32.ofInt y) := congrArg Value.int (zmul_v x y)
  rw [List.map_cons, e1] at hk
  exact hk
theorem zs_iand {x y : Int} (hT : zat M pc = some (.iand, 1)) (k : ZVV Y M d Q (pc + 1) L (ZI (zand x y) :: S) g) : ZVV Y M d Q pc L (ZI y :: ZI x :: S) g := by
  intro p l e s m args below meth c H locs ls F hH hS hL hO
  have hx := F.2.2.1
  have hb := F.2.2.2.1
  have hO1 := zok_cons.mp hO
  have hO2 := zok_cons.mp hO1.2
  have hk := k p l e s m args below meth c H locs ls F hH hS hL (zok_cons.mpr ⟨zI_rng _, hO2.2⟩)
  refine lv_iand hx hb (zfx_dec F hT) ?_
  have e1 : zval Y (ZI (zand x y)) = .int (Int32.ofInt x &&& Int32.ofInt y) := congrArg Value.int (Int32.ofInt_toInt _)
  rw [List.map_cons, e1] at hk
  exact hk
theorem zs_ior {x y : Int} (hT : zat M pc = some (.ior, 1)) (k : ZVV Y M d Q (pc + 1) L (ZI (zor x y) :: S) g) : ZVV Y M d Q pc L (ZI y :: ZI x :: S) g := by
  intro p l e s m args below meth c H locs ls F hH hS hL hO
  have hx := F.2.2.1
  have hb := F.2.2.2.1
  have hO1 := zok_cons.mp hO
  have hO2 := zok_cons.mp hO1.2
  have hk := k p l e s m args below meth c H locs ls F hH hS hL (zok_cons.mpr ⟨zI_rng _, hO2.2⟩)
  refine lv_ior hx hb (zfx_dec F hT) ?_
  have e1 : zval Y (ZI (zor x y)) = .int (Int32.ofInt x ||| Int32.ofInt y) := congrArg Value.int (Int32.ofInt_toInt _)
  rw [List.map_cons, e1] at hk
  exact hk
theorem zs_ixor {x y : Int} (hT : zat M pc = some (.ixor, 1)) (k : ZVV Y M d Q (pc + 1) L (ZI (zxor x y) :: S) g) : ZVV Y M d Q pc L (ZI y :: ZI x :: S) g := by
  intro p l e s m args below meth c H locs ls F hH hS hL hO
  have hx := F.2.2.1
  have hb := F.2.2.2.1
  have hO1 := zok_cons.mp hO
  have hO2 := zok_cons.mp hO1.2
  have hk := k p l e s m args below meth c H locs ls F hH hS hL (zok_cons.mpr ⟨zI_rng _, hO2.2⟩)
  refine lv_ixor hx hb (zfx_dec F hT) ?_
  have e1 : zval Y (ZI (zxor x y)) = .int (Int32.ofInt x ^^^ Int32.ofInt y) := congrArg Value.int (Int32.ofInt_toInt _)
  rw [List.map_cons, e1] at hk
  exact hk
theorem zs_ishl {x y : Int} (hT : zat M pc = some (.ishl, 1)) (k : ZVV Y M d Q (pc + 1) L (ZI (zshl x y) :: S) g) : ZVV Y M d Q pc L (ZI y :: ZI x :: S) g := by
  intro p l e s m args below meth c H locs ls F hH hS hL hO
  have hx := F.2.2.1
  have hb := F.2.2.2.1
  have hO1 := zok_cons.mp hO
  have hO2 := zok_cons.mp hO1.2
  have hk := k p l e s m args below meth c H locs ls F hH hS hL (zok_cons.mpr ⟨zI_rng _, hO2.2⟩)
  refine lv_ishl hx hb (zfx_dec F hT) ?_
  have e1 : zval Y (ZI (zshl x y)) = .int (Int32.ofInt x <<< (Int32.ofInt y &&& 31)) := congrArg Value.int (Int32.ofInt_toInt _)
  rw [List.map_cons, e1] at hk
  exact hk
theorem zs_ishr {x y : Int} (hT : zat M pc = some (.ishr, 1)) (k : ZVV Y M d Q (pc + 1) L (ZI (zshr x y) :: S) g) : ZVV Y M d Q pc L (ZI y :: ZI x :: S) g := by
  intro p l e s m args below meth c H locs ls F hH hS hL hO
  have hx := F.2.2.1
  have hb := F.2.2.2.1
  have hO1 := zok_cons.mp hO
  have hO2 := zok_cons.mp hO1.2
  have hk := k p l e s m args below meth c H locs ls F hH hS hL (zok_cons.mpr ⟨zI_rng _, hO2.2⟩)
  refine lv_ishr hx hb (zfx_dec F hT) ?_
  have e1 : zval Y (ZI (zshr x y)) = .int (Int32.ofInt x >>> (Int32.ofInt y &&& 31)) := congrArg Value.int (Int32.ofInt_toInt _)
  rw [List.map_cons, e1] at hk
  exact hk
theorem zs_idiv {x y : Int} (hT : zat M pc = some (.idiv, 1)) (hne : y ≠ 0) (k : ZVV Y M d Q (pc + 1) L (ZI (zw (x.tdiv y)) :: S) g) : ZVV Y M d Q pc L (ZI y :: ZI x :: S) g := by
  intro p l e s m args below meth c H locs ls F hH hS hL hO
  have hx := F.2.2.1
  have hb := F.2.2.2.1
  have hO1 := zok_cons.mp hO
  have hO2 := zok_cons.mp hO1.2
  have hk := k p l e s m args below meth c H locs ls F hH hS hL (zok_cons.mpr ⟨zw_ok _, hO2.2⟩)
  refine lv_idiv hx hb (zfx_dec F hT) (zI_ne hO1.1 hne) ?_
  have e1 : zval Y (ZI (zw (x.tdiv y))) = .int (Int32.ofInt x / Int32.ofInt y) := congrArg Value.int (zdiv_v hO2.1 hO1.1)
  rw [List.map_cons, e1] at hk
  exact hk
theorem zs_irem {x y : Int} (hT : zat M pc = some (.irem, 1)) (hne : y ≠ 0) (k : ZVV Y M d Q (pc + 1) L (ZI (x.tmod y) :: S) g) : ZVV Y M d Q pc L (ZI y :: ZI x :: S) g := by
  intro p l e s m args below meth c H locs ls F hH hS hL hO
  have hx := F.2.2.1
  have hb := F.2.2.2.1
  have hO1 := zok_cons.mp hO
  have hO2 := zok_cons.mp hO1.2
  have hk := k p l e s m args below meth c H locs ls F hH hS hL (zok_cons.mpr ⟨zrem_ok hO2.1, hO2.2⟩)
  refine lv_irem hx hb (zfx_dec F hT) (zI_ne hO1.1 hne) ?_
  have e1 : zval Y (ZI (x.tmod y)) = .int (Int32.ofInt x - Int32.ofInt x / Int32.ofInt y * Int32.ofInt y) := congrArg Value.int (zrem_v hO2.1 hO1.1)
  rw [List.map_cons, e1] at hk
  exact hk
theorem zs_land {x y : Int} (hT : zat M pc = some (.land, 1)) (k : ZVV Y M d Q (pc + 1) L (ZJ (zland x y) :: S) g) : ZVV Y M d Q pc L (ZJ y :: ZJ x :: S) g := by
  intro p l e s m args below meth c H locs ls F hH hS hL hO
  have hx := F.2.2.1
  have hb := F.2.2.2.1
  have hO1 := zok_cons.mp hO
  have hO2 := zok_cons.mp hO1.2
  have hk := k p l e s m args below meth c H locs ls F hH hS hL (zok_cons.mpr ⟨zJ_rng _, hO2.2⟩)
  refine lv_land hx hb (zfx_dec F hT) ?_
  have e1 : zval Y (ZJ (zland x y)) = .long (Int64.ofInt x &&& Int64.ofInt y) := congrArg Value.long (Int64.ofInt_toInt _)
  rw [List.map_cons, e1] at hk
  exact hk
theorem zs_lor {x y : Int} (hT : zat M pc = some (.lor, 1)) (k : ZVV Y M d Q (pc + 1) L (ZJ (zlor x y) :: S) g) : ZVV Y M d Q pc L (ZJ y :: ZJ x :: S) g := by
  intro p l e s m args below meth c H locs ls F hH hS hL hO
  have hx := F.2.2.1
  have hb := F.2.2.2.1
  have hO1 := zok_cons.mp hO
  have hO2 := zok_cons.mp hO1.2
  have hk := k p l e s m args below meth c H locs ls F hH hS hL (zok_cons.mpr ⟨zJ_rng _, hO2.2⟩)
  refine lv_lor hx hb (zfx_dec F hT) ?_
  have e1 : zval Y (ZJ (zlor x y)) = .long (Int64.ofInt x ||| Int64.ofInt y) := congrArg Value.long (Int64.ofInt_toInt _)
  rw [List.map_cons, e1] at hk
  exact hk
theorem zs_lshl {x y : Int} (hT : zat M pc = some (.lshl, 1)) (k : ZVV Y M d Q (pc + 1) L (ZJ (zlshl x y) :: S) g) : ZVV Y M d Q pc L (ZI y :: ZJ x :: S) g := by
  intro p l e s m args below meth c H locs ls F hH hS hL hO
  have hx := F.2.2.1
  have hb := F.2.2.2.1
  have hO1 := zok_cons.mp hO
  have hO2 := zok_cons.mp hO1.2
  have hk := k p l e s m args below meth c H locs ls F hH hS hL (zok_cons.mpr ⟨zJ_rng _, hO2.2⟩)
  refine lv_lshl hx hb (zfx_dec F hT) rfl ?_
  have e1 : zval Y (ZJ (zlshl x y)) = .long (Int64.ofInt x <<< ((Int32.ofInt y).toInt64 &&& 63)) := congrArg Value.long (Int64.ofInt_toInt _)
  rw [List.map_cons, e1] at hk
  exact hk
theorem zs_lcmp {x y : Int} (hT : zat M pc = some (.lcmp, 1)) (k : ZVV Y M d Q (pc + 1) L (ZI (if x < y then -1 else if x = y then 0 else 1) :: S) g) : ZVV Y M d Q pc L (ZJ y :: ZJ x :: S) g := by
  intro p l e s m args below meth c H locs ls F hH hS hL hO
  have hx := F.2.2.1
  have hb := F.2.2.2.1
  have hO1 := zok_cons.mp hO
  have hO2 := zok_cons.mp hO1.2
  have hk := k p l e s m args below meth c H locs ls F hH hS hL (zok_cons.mpr ⟨by show _ ∧ _; split <;> (try split) <;> omega, hO2.2⟩)
  refine W.lcmp hx hb (zfx_dec F hT) ?_
  have e1 : zval Y (ZI (if x < y then -1 else if x = y then 0 else 1)) = .int (lg_cmp (Int64.ofInt x) (Int64.ofInt y)) := by
    show Value.int _ = _
    congr 1
    have a1 : (Int64.ofInt x < Int64.ofInt y) ↔ x < y := by rw [Int64.lt_iff_toInt_lt, zJ_toInt hO2.1, zJ_toInt hO1.1]
    have a2 : (Int64.ofInt x = Int64.ofInt y) ↔ x = y := ⟨fun q => by have := congrArg Int64.toInt q; rwa [zJ_toInt hO2.1, zJ_toInt hO1.1] at this, fun q => by rw [q]⟩
    have a3 : (Int64.ofInt y < Int64.ofInt x) ↔ y < x := by rw [Int64.lt_iff_toInt_lt, zJ_toInt hO2.1, zJ_toInt hO1.1]
    unfold lg_cmp
    simp only [a1, a2, a3]
    by_cases q1 : x < y
    · have q3 : ¬ y < x := by omega
      have q4 : ¬ x = y := by omega
      simp [q1, q3, q4]
    · by_cases q2 : x = y
      · subst q2; simp
      · have q3 : y < x := by omega
        simp [q1, q2, q3]
  rw [List.map_cons, e1] at hk
  exact hk
theorem zs_ineg {x : Int} (hT : zat M pc = some (.ineg, 1)) (k : ZVV Y M d Q (pc + 1) L (ZI (zw (-x)) :: S) g) : ZVV Y M d Q pc L (ZI x :: S) g := by
  intro p l e s m args below meth c H locs ls F hH hS hL hO
  have hx := F.2.2.1
  have hb := F.2.2.2.1
  have hO1 := zok_cons.mp hO
  have hk := k p l e s m args below meth c H locs ls F hH hS hL (zok_cons.mpr ⟨zw_ok _, hO1.2⟩)
  refine lv_ineg hx hb (zfx_dec F hT) ?_
  have e1 : zval Y (ZI (zw (-x))) = .int (-Int32.ofInt x) := congrArg Value.int (zneg_v x)
  rw [List.map_cons, e1] at hk
  exact hk
theorem zs_i2l {x : Int} (hT : zat M pc = some (.i2l, 1)) (k : ZVV Y M d Q (pc + 1) L (ZJ x :: S) g) : ZVV Y M d Q pc L (ZI x :: S) g := by
  intro p l e s m args below meth c H locs ls F hH hS hL hO
  have hx := F.2.2.1
  have hb := F.2.2.2.1
  have hO1 := zok_cons.mp hO
  have hr : -2147483648 ≤ x ∧ x < 2147483648 := hO1.1
  refine lv_i2l (v := Int64.ofInt x) hx hb (zfx_dec F hT) ?_ (k p l e s m args below meth c H locs ls F hH hS hL (zok_cons.mpr ⟨⟨by omega, by omega⟩, hO1.2⟩))
  apply Int64.toInt.inj
  rw [Int32.toInt_toInt64, zI_toInt hr, zJ_toInt ⟨by omega, by omega⟩]
theorem zs_l2i {x : Int} (hT : zat M pc = some (.l2i, 1)) (k : ZVV Y M d Q (pc + 1) L (ZI (zw x) :: S) g) : ZVV Y M d Q pc L (ZJ x :: S) g := by
  intro p l e s m args below meth c H locs ls F hH hS hL hO
  have hx := F.2.2.1
  have hb := F.2.2.2.1
  have hO1 := zok_cons.mp hO
  refine lv_l2i (v := Int32.ofInt (zw x)) hx hb (zfx_dec F hT) ?_ (k p l e s m args below meth c H locs ls F hH hS hL (zok_cons.mpr ⟨zw_ok _, hO1.2⟩))
  apply Int32.toInt.inj
  rw [Int64.toInt_toInt32, zJ_toInt hO1.1, zI_toInt (zw_ok _)]; rfl
theorem zb8_ok (x : Int) : -128 ≤ x.bmod 256 ∧ x.bmod 256 < 128 := by
  have h1 := Int.le_bmod (x := x) (m := 256) (by decide)
  have h2 := Int.bmod_lt (x := x) (m := 256) (by decide)
  omega
theorem zb16_ok (x : Int) : -32768 ≤ x.bmod 65536 ∧ x.bmod 65536 < 32768 := by
  have h1 := Int.le_bmod (x := x) (m := 65536) (by decide)
  have h2 := Int.bmod_lt (x := x) (m := 65536) (by decide)
  omega
theorem zs_i2b {x : Int} (hT : zat M pc = some (.i2b, 1)) (k : ZVV Y M d Q (pc + 1) L (ZI (x.bmod 256) :: S) g) : ZVV Y M d Q pc L (ZI x :: S) g := by
  intro p l e s m args below meth c H locs ls F hH hS hL hO
  have hx := F.2.2.1
  have hb := F.2.2.2.1
  have hO1 := zok_cons.mp hO
  have hz := zb8_ok x
  refine lv_i2b (v := Int32.ofInt (x.bmod 256)) hx hb (zfx_dec F hT) ?_ (k p l e s m args below meth c H locs ls F hH hS hL (zok_cons.mpr ⟨⟨by omega, by omega⟩, hO1.2⟩))
  apply Int32.toInt.inj
  rw [Int8.toInt_toInt32, Int32.toInt_toInt8, zI_toInt hO1.1, zI_toInt ⟨by omega, by omega⟩]
theorem zs_i2s {x : Int} (hT : zat M pc = some (.i2s, 1)) (k : ZVV Y M d Q (pc + 1) L (ZI (x.bmod 65536) :: S) g) : ZVV Y M d Q pc L (ZI x :: S) g := by
  intro p l e s m args below meth c H locs ls F hH hS hL hO
  have hx := F.2.2.1
  have hb := F.2.2.2.1
  have hO1 := zok_cons.mp hO
  have hz := zb16_ok x
  refine lv_i2s (v := Int32.ofInt (x.bmod 65536)) hx hb (zfx_dec F hT) ?_ (k p l e s m args below meth c H locs ls F hH hS hL (zok_cons.mpr ⟨⟨by omega, by omega⟩, hO1.2⟩))
  apply Int32.toInt.inj
  rw [Int16.toInt_toInt32, Int32.toInt_toInt16, zI_toInt hO1.1, zI_toInt ⟨by omega, by omega⟩]
theorem zs_dup {v : ZV} (hT : zat M pc = some (.dup, 1)) (hc : ∀ x, v ≠ ZJ x) (k : ZVV Y M d Q (pc + 1) L (v :: v :: S) g) : ZVV Y M d Q pc L (v :: S) g := by
  intro p l e s m args below meth c H locs ls F hH hS hL hO
  have hx := F.2.2.1
  have hb := F.2.2.2.1
  have hO1 := zok_cons.mp hO
  refine lv_dup hx hb (zfx_dec F hT) ?_ (k p l e s m args below meth c H locs ls F hH hS hL (zok_cons.mpr ⟨hO1.1, hO⟩))
  rcases v with x | x | x | x
  · rfl
  · exact absurd rfl (hc x)
  · rfl
  · rfl
theorem zcat1 {v : ZV} (hc : ∀ x, v ≠ ZJ x) : (zval Y v).category = 1 := by
  rcases v with x | x | x | x
  · rfl
  · exact absurd rfl (hc x)
  · rfl
  · rfl
theorem zs_dup_x1 {v u : ZV} (hT : zat M pc = some (.dup_x1, 1)) (hc : ∀ x, v ≠ ZJ x) (hc2 : ∀ x, u ≠ ZJ x) (k : ZVV Y M d Q (pc + 1) L (v :: u :: v :: S) g) : ZVV Y M d Q pc L (v :: u :: S) g := by
  intro p l e s m args below meth c H locs ls F hH hS hL hO
  have hx := F.2.2.1
  have hb := F.2.2.2.1
  have hO1 := zok_cons.mp hO
  have hO2 := zok_cons.mp hO1.2
  exact lv_dup_x1 hx hb (zfx_dec F hT) (zcat1 hc) (zcat1 hc2) (k p l e s m args below meth c H locs ls F hH hS hL (zok_cons.mpr ⟨hO1.1, zok_cons.mpr ⟨hO2.1, hO1.1 |> fun a => zok_cons.mpr ⟨a, hO2.2⟩⟩⟩))
theorem zs_dup2 {v u : ZV} (hT : zat M pc = some (.dup2, 1)) (hc : ∀ x, v ≠ ZJ x) (hc2 : ∀ x, u ≠ ZJ x) (k : ZVV Y M d Q (pc + 1) L (v :: u :: v :: u :: S) g) : ZVV Y M d Q pc L (v :: u :: S) g := by
  intro p l e s m args below meth c H locs ls F hH hS hL hO
  have hx := F.2.2.1
  have hb := F.2.2.2.1
  have hO1 := zok_cons.mp hO
  have hO2 := zok_cons.mp hO1.2
  exact lv_dup2_11 hx hb (zfx_dec F hT) (zcat1 hc) (zcat1 hc2) (k p l e s m args below meth c H locs ls F hH hS hL (zok_cons.mpr ⟨hO1.1, zok_cons.mpr ⟨hO2.1, hO⟩⟩))
theorem zs_pop {v : ZV} (hT : zat M pc = some (.pop, 1)) (hc : ∀ x, v ≠ ZJ x) (k : ZVV Y M d Q (pc + 1) L S g) : ZVV Y M d Q pc L (v :: S) g := by
  intro p l e s m args below meth c H locs ls F hH hS hL hO
  have hx := F.2.2.1
  have hb := F.2.2.2.1
  exact lv_pop hx hb (zfx_dec F hT) (zcat1 hc) (k p l e s m args below meth c H locs ls F hH hS hL (zok_cons.mp hO).2)
theorem zI_eqi {x y : Int} (hx : zok Y (ZI x)) (hy : zok Y (ZI y)) : Int32.ofInt x = Int32.ofInt y ↔ x = y := ⟨fun q => by have := congrArg Int32.toInt q; rwa [zI_toInt hx, zI_toInt hy] at this, fun q => by rw [q]⟩
theorem zI_lti {x y : Int} (hx : zok Y (ZI x)) (hy : zok Y (ZI y)) : Int32.ofInt x < Int32.ofInt y ↔ x < y := by rw [Int32.lt_iff_toInt_lt, zI_toInt hx, zI_toInt hy]
theorem zI_lei {x y : Int} (hx : zok Y (ZI x)) (hy : zok Y (ZI y)) : Int32.ofInt x ≤ Int32.ofInt y ↔ x ≤ y := by rw [Int32.le_iff_toInt_le, zI_toInt hx, zI_toInt hy]
theorem zok0 : zok Y (ZI 0) := ⟨by omega, by omega⟩
theorem zs_icmp_eq {x y off : Int} (tgt : Nat) (hT : zat M pc = some (.if_icmp .eq off, 3)) (ht : (pc : Int) + off = (tgt : Int)) (kt : x = y → ZVV Y M d Q tgt L S g) (kf : ¬ (x = y) → ZVV Y M d Q (pc + 3) L S g) : ZVV Y M d Q pc L (ZI y :: ZI x :: S) g := by
  intro p l e s m args below meth c H locs ls F hH hS hL hO
  have hx := F.2.2.1
  have hb := F.2.2.2.1
  have hO1 := zok_cons.mp hO
  have hO2 := zok_cons.mp hO1.2
  refine lv_icmp_eq (tgt := tgt) hx hb (zfx_dec F hT) ht (fun z => kt ?_ p l e s m args below meth c H locs ls F hH hS hL hO2.2) (fun z => kf ?_ p l e s m args below meth c H locs ls F hH hS hL hO2.2)
  · first | exact (zI_eqi hO2.1 hO1.1).mp z | exact fun w => z ((zI_eqi hO2.1 hO1.1).mpr w) | exact (zI_lti hO2.1 hO1.1).mp z | exact (zI_lti hO1.1 hO2.1).mp z | exact (zI_lei hO2.1 hO1.1).mp z | exact (zI_lei hO1.1 hO2.1).mp z
  · first | exact fun w => z ((zI_eqi hO2.1 hO1.1).mpr w) | exact fun w => w ((zI_eqi hO2.1 hO1.1).mp z) | exact fun w => z ((zI_lti hO2.1 hO1.1).mpr w) | exact fun w => z ((zI_lti hO1.1 hO2.1).mpr w) | exact fun w => z ((zI_lei hO2.1 hO1.1).mpr w) | exact fun w => z ((zI_lei hO1.1 hO2.1).mpr w)
theorem zs_if_eq {x off : Int} (tgt : Nat) (hT : zat M pc = some (.ifCond .eq off, 3)) (ht : (pc : Int) + off = (tgt : Int)) (kt : x = 0 → ZVV Y M d Q tgt L S g) (kf : ¬ (x = 0) → ZVV Y M d Q (pc + 3) L S g) : ZVV Y M d Q pc L (ZI x :: S) g := by
  intro p l e s m args below meth c H locs ls F hH hS hL hO
  have hx := F.2.2.1
  have hb := F.2.2.2.1
  have hO1 := zok_cons.mp hO
  refine lv_if_eq (tgt := tgt) hx hb (zfx_dec F hT) ht (fun z => kt ?_ p l e s m args below meth c H locs ls F hH hS hL hO1.2) (fun z => kf ?_ p l e s m args below meth c H locs ls F hH hS hL hO1.2)
  · first | exact (zI_eqi hO1.1 zok0).mp z | exact fun w => z ((zI_eqi hO1.1 zok0).mpr w) | exact (zI_lti hO1.1 zok0).mp z | exact (zI_lti zok0 hO1.1).mp z | exact (zI_lei hO1.1 zok0).mp z | exact (zI_lei zok0 hO1.1).mp z
  · first | exact fun w => z ((zI_eqi hO1.1 zok0).mpr w) | exact fun w => w ((zI_eqi hO1.1 zok0).mp z) | exact fun w => z ((zI_lti hO1.1 zok0).mpr w) | exact fun w => z ((zI_lti zok0 hO1.1).mpr w) | exact fun w => z ((zI_lei hO1.1 zok0).mpr w) | exact fun w => z ((zI_lei zok0 hO1.1).mpr w)
theorem zs_icmp_ne {x y off : Int} (tgt : Nat) (hT : zat M pc = some (.if_icmp .ne off, 3)) (ht : (pc : Int) + off = (tgt : Int)) (kt : x ≠ y → ZVV Y M d Q tgt L S g) (kf : ¬ (x ≠ y) → ZVV Y M d Q (pc + 3) L S g) : ZVV Y M d Q pc L (ZI y :: ZI x :: S) g := by
  intro p l e s m args below meth c H locs ls F hH hS hL hO
  have hx := F.2.2.1
  have hb := F.2.2.2.1
  have hO1 := zok_cons.mp hO
  have hO2 := zok_cons.mp hO1.2
  refine lv_icmp_ne (tgt := tgt) hx hb (zfx_dec F hT) ht (fun z => kt ?_ p l e s m args below meth c H locs ls F hH hS hL hO2.2) (fun z => kf ?_ p l e s m args below meth c H locs ls F hH hS hL hO2.2)
  · first | exact (zI_eqi hO2.1 hO1.1).mp z | exact fun w => z ((zI_eqi hO2.1 hO1.1).mpr w) | exact (zI_lti hO2.1 hO1.1).mp z | exact (zI_lti hO1.1 hO2.1).mp z | exact (zI_lei hO2.1 hO1.1).mp z | exact (zI_lei hO1.1 hO2.1).mp z
  · first | exact fun w => z ((zI_eqi hO2.1 hO1.1).mpr w) | exact fun w => w ((zI_eqi hO2.1 hO1.1).mp z) | exact fun w => z ((zI_lti hO2.1 hO1.1).mpr w) | exact fun w => z ((zI_lti hO1.1 hO2.1).mpr w) | exact fun w => z ((zI_lei hO2.1 hO1.1).mpr w) | exact fun w => z ((zI_lei hO1.1 hO2.1).mpr w)
theorem zs_if_ne {x off : Int} (tgt : Nat) (hT : zat M pc = some (.ifCond .ne off, 3)) (ht : (pc : Int) + off = (tgt : Int)) (kt : x ≠ 0 → ZVV Y M d Q tgt L S g) (kf : ¬ (x ≠ 0) → ZVV Y M d Q (pc + 3) L S g) : ZVV Y M d Q pc L (ZI x :: S) g := by
  intro p l e s m args below meth c H locs ls F hH hS hL hO
  have hx := F.2.2.1
  have hb := F.2.2.2.1
  have hO1 := zok_cons.mp hO
  refine lv_if_ne (tgt := tgt) hx hb (zfx_dec F hT) ht (fun z => kt ?_ p l e s m args below meth c H locs ls F hH hS hL hO1.2) (fun z => kf ?_ p l e s m args below meth c H locs ls F hH hS hL hO1.2)
  · first | exact (zI_eqi hO1.1 zok0).mp z | exact fun w => z ((zI_eqi hO1.1 zok0).mpr w) | exact (zI_lti hO1.1 zok0).mp z | exact (zI_lti zok0 hO1.1).mp z | exact (zI_lei hO1.1 zok0).mp z | exact (zI_lei zok0 hO1.1).mp z
  · first | exact fun w => z ((zI_eqi hO1.1 zok0).mpr w) | exact fun w => w ((zI_eqi hO1.1 zok0).mp z) | exact fun w => z ((zI_lti hO1.1 zok0).mpr w) | exact fun w => z ((zI_lti zok0 hO1.1).mpr w) | exact fun w => z ((zI_lei hO1.1 zok0).mpr w) | exact fun w => z ((zI_lei zok0 hO1.1).mpr w)
theorem zs_icmp_lt {x y off : Int} (tgt : Nat) (hT : zat M pc = some (.if_icmp .lt off, 3)) (ht : (pc : Int) + off = (tgt : Int)) (kt : x < y → ZVV Y M d Q tgt L S g) (kf : ¬ (x < y) → ZVV Y M d Q (pc + 3) L S g) : ZVV Y M d Q pc L (ZI y :: ZI x :: S) g := by
  intro p l e s m args below meth c H locs ls F hH hS hL hO
  have hx := F.2.2.1
  have hb := F.2.2.2.1
  have hO1 := zok_cons.mp hO
  have hO2 := zok_cons.mp hO1.2
  refine lv_icmp_lt (tgt := tgt) hx hb (zfx_dec F hT) ht (fun z => kt ?_ p l e s m args below meth c H locs ls F hH hS hL hO2.2) (fun z => kf ?_ p l e s m args below meth c H locs ls F hH hS hL hO2.2)
  · first | exact (zI_eqi hO2.1 hO1.1).mp z | exact fun w => z ((zI_eqi hO2.1 hO1.1).mpr w) | exact (zI_lti hO2.1 hO1.1).mp z | exact (zI_lti hO1.1 hO2.1).mp z | exact (zI_lei hO2.1 hO1.1).mp z | exact (zI_lei hO1.1 hO2.1).mp z
  · first | exact fun w => z ((zI_eqi hO2.1 hO1.1).mpr w) | exact fun w => w ((zI_eqi hO2.1 hO1.1).mp z) | exact fun w => z ((zI_lti hO2.1 hO1.1).mpr w) | exact fun w => z ((zI_lti hO1.1 hO2.1).mpr w) | exact fun w => z ((zI_lei hO2.1 hO1.1).mpr w) | exact fun w => z ((zI_lei hO1.1 hO2.1).mpr w)
theorem zs_if_lt {x off : Int} (tgt : Nat) (hT : zat M pc = some (.ifCond .lt off, 3)) (ht : (pc : Int) + off = (tgt : Int)) (kt : x < 0 → ZVV Y M d Q tgt L S g) (kf : ¬ (x < 0) → ZVV Y M d Q (pc + 3) L S g) : ZVV Y M d Q pc L (ZI x :: S) g := by
  intro p l e s m args below meth c H locs ls F hH hS hL hO
  have hx := F.2.2.1
  have hb := F.2.2.2.1
  have hO1 := zok_cons.mp hO
  refine lv_if_lt (tgt := tgt) hx hb (zfx_dec F hT) ht (fun z => kt ?_ p l e s m args below meth c H locs ls F hH hS hL hO1.2) (fun z => kf ?_ p l e s m args below meth c H locs ls F hH hS hL hO1.2)
  · first | exact (zI_eqi hO1.1 zok0).mp z | exact fun w => z ((zI_eqi hO1.1 zok0).mpr w) | exact (zI_lti hO1.1 zok0).mp z | exact (zI_lti zok0 hO1.1).mp z | exact (zI_lei hO1.1 zok0).mp z | exact (zI_lei zok0 hO1.1).mp z
  · first | exact fun w => z ((zI_eqi hO1.1 zok0).mpr w) | exact fun w => w ((zI_eqi hO1.1 zok0).mp z) | exact fun w => z ((zI_lti hO1.1 zok0).mpr w) | exact fun w => z ((zI_lti zok0 hO1.1).mpr w) | exact fun w => z ((zI_lei hO1.1 zok0).mpr w) | exact fun w => z ((zI_lei zok0 hO1.1).mpr w)
theorem zs_icmp_ge {x y off : Int} (tgt : Nat) (hT : zat M pc = some (.if_icmp .ge off, 3)) (ht : (pc : Int) + off = (tgt : Int)) (kt : y ≤ x → ZVV Y M d Q tgt L S g) (kf : ¬ (y ≤ x) → ZVV Y M d Q (pc + 3) L S g) : ZVV Y M d Q pc L (ZI y :: ZI x :: S) g := by
  intro p l e s m args below meth c H locs ls F hH hS hL hO
  have hx := F.2.2.1
  have hb := F.2.2.2.1
  have hO1 := zok_cons.mp hO
  have hO2 := zok_cons.mp hO1.2
  refine lv_icmp_ge (tgt := tgt) hx hb (zfx_dec F hT) ht (fun z => kt ?_ p l e s m args below meth c H locs ls F hH hS hL hO2.2) (fun z => kf ?_ p l e s m args below meth c H locs ls F hH hS hL hO2.2)
  · first | exact (zI_eqi hO2.1 hO1.1).mp z | exact fun w => z ((zI_eqi hO2.1 hO1.1).mpr w) | exact (zI_lti hO2.1 hO1.1).mp z | exact (zI_lti hO1.1 hO2.1).mp z | exact (zI_lei hO2.1 hO1.1).mp z | exact (zI_lei hO1.1 hO2.1).mp z
  · first | exact fun w => z ((zI_eqi hO2.1 hO1.1).mpr w) | exact fun w => w ((zI_eqi hO2.1 hO1.1).mp z) | exact fun w => z ((zI_lti hO2.1 hO1.1).mpr w) | exact fun w => z ((zI_lti hO1.1 hO2.1).mpr w) | exact fun w => z ((zI_lei hO2.1 hO1.1).mpr w) | exact fun w => z ((zI_lei hO1.1 hO2.1).mpr w)
theorem zs_if_ge {x off : Int} (tgt : Nat) (hT : zat M pc = some (.ifCond .ge off, 3)) (ht : (pc : Int) + off = (tgt : Int)) (kt : 0 ≤ x → ZVV Y M d Q tgt L S g) (kf : ¬ (0 ≤ x) → ZVV Y M d Q (pc + 3) L S g) : ZVV Y M d Q pc L (ZI x :: S) g := by
  intro p l e s m args below meth c H locs ls F hH hS hL hO
  have hx := F.2.2.1
  have hb := F.2.2.2.1
  have hO1 := zok_cons.mp hO
  refine lv_if_ge (tgt := tgt) hx hb (zfx_dec F hT) ht (fun z => kt ?_ p l e s m args below meth c H locs ls F hH hS hL hO1.2) (fun z => kf ?_ p l e s m args below meth c H locs ls F hH hS hL hO1.2)
  · first | exact (zI_eqi hO1.1 zok0).mp z | exact fun w => z ((zI_eqi hO1.1 zok0).mpr w) | exact (zI_lti hO1.1 zok0).mp z | exact (zI_lti zok0 hO1.1).mp z | exact (zI_lei hO1.1 zok0).mp z | exact (zI_lei zok0 hO1.1).mp z
  · first | exact fun w => z ((zI_eqi hO1.1 zok0).mpr w) | exact fun w => w ((zI_eqi hO1.1 zok0).mp z) | exact fun w => z ((zI_lti hO1.1 zok0).mpr w) | exact fun w => z ((zI_lti zok0 hO1.1).mpr w) | exact fun w => z ((zI_lei hO1.1 zok0).mpr w) | exact fun w => z ((zI_lei zok0 hO1.1).mpr w)
theorem zs_icmp_gt {x y off : Int} (tgt : Nat) (hT : zat M pc = some (.if_icmp .gt off, 3)) (ht : (pc : Int) + off = (tgt : Int)) (kt : y < x → ZVV Y M d Q tgt L S g) (kf : ¬ (y < x) → ZVV Y M d Q (pc + 3) L S g) : ZVV Y M d Q pc L (ZI y :: ZI x :: S) g := by
  intro p l e s m args below meth c H locs ls F hH hS hL hO
  have hx := F.2.2.1
  have hb := F.2.2.2.1
  have hO1 := zok_cons.mp hO
  have hO2 := zok_cons.mp hO1.2
  refine lv_icmp_gt (tgt := tgt) hx hb (zfx_dec F hT) ht (fun z => kt ?_ p l e s m args below meth c H locs ls F hH hS hL hO2.2) (fun z => kf ?_ p l e s m args below meth c H locs ls F hH hS hL hO2.2)
  · first | exact (zI_eqi hO2.1 hO1.1).mp z | exact fun w => z ((zI_eqi hO2.1 hO1.1).mpr w) | exact (zI_lti hO2.1 hO1.1).mp z | exact (zI_lti hO1.1 hO2.1).mp z | exact (zI_lei hO2.1 hO1.1).mp z | exact (zI_lei hO1.1 hO2.1).mp z
  · first | exact fun w => z ((zI_eqi hO2.1 hO1.1).mpr w) | exact fun w => w ((zI_eqi hO2.1 hO1.1).mp z) | exact fun w => z ((zI_lti hO2.1 hO1.1).mpr w) | exact fun w => z ((zI_lti hO1.1 hO2.1).mpr w) | exact fun w => z ((zI_lei hO2.1 hO1.1).mpr w) | exact fun w => z ((zI_lei hO1.1 hO2.1).mpr w)
theorem zs_if_gt {x off : Int} (tgt : Nat) (hT : zat M pc = some (.ifCond .gt off, 3)) (ht : (pc : Int) + off = (tgt : Int)) (kt : 0 < x → ZVV Y M d Q tgt L S g) (kf : ¬ (0 < x) → ZVV Y M d Q (pc + 3) L S g) : ZVV Y M d Q pc L (ZI x :: S) g := by
  intro p l e s m args below meth c H locs ls F hH hS hL hO
  have hx := F.2.2.1
  have hb := F.2.2.2.1
  have hO1 := zok_cons.mp hO
  refine lv_if_gt (tgt := tgt) hx hb (zfx_dec F hT) ht (fun z => kt ?_ p l e s m args below meth c H locs ls F hH hS hL hO1.2) (fun z => kf ?_ p l e s m args below meth c H locs ls F hH hS hL hO1.2)
  · first | exact (zI_eqi hO1.1 zok0).mp z | exact fun w => z ((zI_eqi hO1.1 zok0).mpr w) | exact (zI_lti hO1.1 zok0).mp z | exact (zI_lti zok0 hO1.1).mp z | exact (zI_lei hO1.1 zok0).mp z | exact (zI_lei zok0 hO1.1).mp z
  · first | exact fun w => z ((zI_eqi hO1.1 zok0).mpr w) | exact fun w => w ((zI_eqi hO1.1 zok0).mp z) | exact fun w => z ((zI_lti hO1.1 zok0).mpr w) | exact fun w => z ((zI_lti zok0 hO1.1).mpr w) | exact fun w => z ((zI_lei hO1.1 zok0).mpr w) | exact fun w => z ((zI_lei zok0 hO1.1).mpr w)
theorem zs_icmp_le {x y off : Int} (tgt : Nat) (hT : zat M pc = some (.if_icmp .le off, 3)) (ht : (pc : Int) + off = (tgt : Int)) (kt : x ≤ y → ZVV Y M d Q tgt L S g) (kf : ¬ (x ≤ y) → ZVV Y M d Q (pc + 3) L S g) : ZVV Y M d Q pc L (ZI y :: ZI x :: S) g := by
  intro p l e s m args below meth c H locs ls F hH hS hL hO
  have hx := F.2.2.1
  have hb := F.2.2.2.1
  have hO1 := zok_cons.mp hO
  have hO2 := zok_cons.mp hO1.2
  refine lv_icmp_le (tgt := tgt) hx hb (zfx_dec F hT) ht (fun z => kt ?_ p l e s m args below meth c H locs ls F hH hS hL hO2.2) (fun z => kf ?_ p l e s m args below meth c H locs ls F hH hS hL hO2.2)
  · first | exact (zI_eqi hO2.1 hO1.1).mp z | exact fun w => z ((zI_eqi hO2.1 hO1.1).mpr w) | exact (zI_lti hO2.1 hO1.1).mp z | exact (zI_lti hO1.1 hO2.1).mp z | exact (zI_lei hO2.1 hO1.1).mp z | exact (zI_lei hO1.1 hO2.1).mp z
  · first | exact fun w => z ((zI_eqi hO2.1 hO1.1).mpr w) | exact fun w => w ((zI_eqi hO2.1 hO1.1).mp z) | exact fun w => z ((zI_lti hO2.1 hO1.1).mpr w) | exact fun w => z ((zI_lti hO1.1 hO2.1).mpr w) | exact fun w => z ((zI_lei hO2.1 hO1.1).mpr w) | exact fun w => z ((zI_lei hO1.1 hO2.1).mpr w)
theorem zs_if_le {x off : Int} (tgt : Nat) (hT : zat M pc = some (.ifCond .le off, 3)) (ht : (pc : Int) + off = (tgt : Int)) (kt : x ≤ 0 → ZVV Y M d Q tgt L S g) (kf : ¬ (x ≤ 0) → ZVV Y M d Q (pc + 3) L S g) : ZVV Y M d Q pc L (ZI x :: S) g := by
  intro p l e s m args below meth c H locs ls F hH hS hL hO
  have hx := F.2.2.1
  have hb := F.2.2.2.1
  have hO1 := zok_cons.mp hO
  refine lv_if_le (tgt := tgt) hx hb (zfx_dec F hT) ht (fun z => kt ?_ p l e s m args below meth c H locs ls F hH hS hL hO1.2) (fun z => kf ?_ p l e s m args below meth c H locs ls F hH hS hL hO1.2)
  · first | exact (zI_eqi hO1.1 zok0).mp z | exact fun w => z ((zI_eqi hO1.1 zok0).mpr w) | exact (zI_lti hO1.1 zok0).mp z | exact (zI_lti zok0 hO1.1).mp z | exact (zI_lei hO1.1 zok0).mp z | exact (zI_lei zok0 hO1.1).mp z
  · first | exact fun w => z ((zI_eqi hO1.1 zok0).mpr w) | exact fun w => w ((zI_eqi hO1.1 zok0).mp z) | exact fun w => z ((zI_lti hO1.1 zok0).mpr w) | exact fun w => z ((zI_lti zok0 hO1.1).mpr w) | exact fun w => z ((zI_lei hO1.1 zok0).mpr w) | exact fun w => z ((zI_lei zok0 hO1.1).mpr w)
theorem zs_goto {off : Int} (tgt : Nat) (hT : zat M pc = some (.goto off, 3)) (ht : (pc : Int) + off = (tgt : Int)) (k : ZVV Y M d Q tgt L S g) : ZVV Y M d Q pc L S g := by
  intro p l e s m args below meth c H locs ls F hH hS hL hO
  have hx := F.2.2.1
  have hb := F.2.2.2.1
  exact lv_goto (tgt := tgt) hx hb (zfx_dec F hT) ht (k p l e s m args below meth c H locs ls F hH hS hL hO)
theorem zs_tsIn {dflt lo hi : Int} {offs : Array Int} {len : Nat} {x off : Int} (tgt : Nat) (hT : zat M pc = some (.tableswitch dflt lo hi offs, len)) (h1 : ¬ x < lo) (h2 : ¬ hi < x) (ho : offs[(x - lo).toNat]? = some off) (ht : (pc : Int) + off = (tgt : Int)) (k : ZVV Y M d Q tgt L S g) : ZVV Y M d Q pc L (ZI x :: S) g := by
  intro p l e s m args below meth c H locs ls F hH hS hL hO
  have hx := F.2.2.1
  have hb := F.2.2.2.1
  have hO1 := zok_cons.mp hO
  have e1 : (Int32.ofInt x).toInt = x := zI_toInt hO1.1
  exact lv_tableIn (tgt := tgt) hx hb (zfx_dec F hT) (by rw [e1]; exact h1) (by rw [e1]; exact h2) (by rw [e1]; exact ho) ht (k p l e s m args below meth c H locs ls F hH hS hL hO1.2)
theorem zs_tsOut {dflt lo hi : Int} {offs : Array Int} {len : Nat} {x : Int} (tgt : Nat) (hT : zat M pc = some (.tableswitch dflt lo hi offs, len)) (h : x < lo ∨ hi < x) (ht : (pc : Int) + dflt = (tgt : Int)) (k : ZVV Y M d Q tgt L S g) : ZVV Y M d Q pc L (ZI x :: S) g := by
  intro p l e s m args below meth c H locs ls F hH hS hL hO
  have hx := F.2.2.1
  have hb := F.2.2.2.1
  have hO1 := zok_cons.mp hO
  have e1 : (Int32.ofInt x).toInt = x := zI_toInt hO1.1
  exact lv_tableOut (tgt := tgt) hx hb (zfx_dec F hT) (by rw [e1]; exact h) ht (k p l e s m args below meth c H locs ls F hH hS hL hO1.2)
theorem zs_ls {dflt : Int} {ps : Array (Int × Int)} {len : Nat} {x off : Int} (tgt : Nat) (hT : zat M pc = some (.lookupswitch dflt ps, len)) (hp : (ps.toList.zip (ps.toList.drop 1)).all (fun (a, next) => a.1 < next.1) = true) (ho : Op.lookupswitch.offset ps.toList dflt x = off) (ht : (pc : Int) + off = (tgt : Int)) (k : ZVV Y M d Q tgt L S g) : ZVV Y M d Q pc L (ZI x :: S) g := by
  intro p l e s m args below meth c H locs ls F hH hS hL hO
  have hx := F.2.2.1
  have hb := F.2.2.2.1
  have hO1 := zok_cons.mp hO
  have e1 : (Int32.ofInt x).toInt = x := zI_toInt hO1.1
  exact lv_lookup (tgt := tgt) hx hb (zfx_dec F hT) hp (by rw [e1]; exact ho) ht (k p l e s m args below meth c H locs ls F hH hS hL hO1.2)
end ZS
end
section
section ZM1
variable {Y : ZW} {M : ZM} {d : Nat} {Q : Option ZV → ZG → Prop} {pc : Nat} {L S : List ZV} {g : ZG}
def zmv (t : Nat × Nat × Nat) (i : Nat) (x : Int) : ZV := match t.1 with
  | 0 => ZI x
  | 1 => ZI x
  | 3 => ZR t.2.1 i
  | 4 => ZR t.2.1 t.2.2
  | _ => ZR t.2.1 x.toNat
def zmc (t : Nat × Nat × Nat) (x : Int) : Prop := match t.1 with
  | 6 => 0 ≤ x
  | _ => True
theorem zmv_val {t : Nat × Nat × Nat} {i : Nat} {x : Int} (h : zmc t x) (h6 : t.1 < 7) (h2 : t.1 ≠ 2) : zval Y (zmv t i x) = zfv Y t i x := by
  obtain ⟨a, b, c⟩ := t
  match a with
  | 0 => rfl
  | 1 => rfl
  | 2 => exact absurd rfl h2
  | 3 => rfl
  | 4 => rfl
  | 5 => rfl
  | 6 =>
    have h : 0 ≤ x := h
    show Value.ref (zad Y b x.toNat) = if x < 0 then .null else .ref (zad Y b x.toNat)
    rw [if_neg (by omega)]
  | k + 7 => exact absurd h6 (by show ¬ k + 7 < 7; omega)
theorem zmv_ok {t : Nat × Nat × Nat} {i : Nat} {x : Int} (h : zmc t x) (h6 : t.1 < 7) (h2 : t.1 ≠ 2) (hr : zfr Y t i x) : zok Y (zmv t i x) := by
  obtain ⟨a, b, c⟩ := t
  match a with
  | 0 => exact hr
  | 1 => have hr : 0 ≤ x ∧ x ≤ 1 := hr; exact ⟨by omega, by omega⟩
  | 2 => exact absurd rfl h2
  | 3 => exact hr
  | 4 => exact hr
  | 5 => exact hr
  | 6 => exact hr h
  | k + 7 => exact absurd h6 (by show ¬ k + 7 < 7; omega)
theorem zfld_tag : ∀ f, f < 9 → ∀ k, k < (zfam f).2 → ((zfld f).getD k (9, 0, 0)).1 < 7 ∧ ((zfld f).getD k (9, 0, 0)).1 ≠ 2 := by decide +kernel
theorem zcl_lt {f : Nat} {r : vw_C} (h : vwCl[f]? = some r) : f < 9 := (List.getElem?_eq_some_iff.mp h).1
/-- an object's cell -/
theorem zcell_o {f i : Nat} {h : Nat → Int} {N : Nat} (hf : zfam f = (0, N)) : zcell Y f i h = .inr (f, (List.range N).map fun k => zfv Y ((zfld f).getD k (9, 0, 0)) i (h k)) := by
  unfold zcell; rw [hf]; rfl
theorem zs_getfield {idx f k q : Nat} (hT : zat M pc = some (.getfield idx, 3)) (hP : zPl M idx = some (.inl (f, k))) (hc : zmc ((zfld f).getD k (9, 0, 0)) (g f q k)) (kk : ZVV Y M d Q (pc + 3) L (zmv ((zfld f).getD k (9, 0, 0)) q (g f q k) :: S) g) : ZVV Y M d Q pc L (ZR f q :: S) g := by
  intro p l e s m args below meth c H locs ls F hH hS hL hO
  have hx := F.2.2.1
  have hb := F.2.2.2.1
  have hO1 := zok_cons.mp hO
  obtain ⟨r, hr, hk, hlink⟩ := F.1.2.2.2.2 idx _ hP
  obtain ⟨c1, c2, c3, c4, c5⟩ := zcl_all hr
  obtain ⟨q0, hq0⟩ := List.getElem?_of_mem (show (f, q) ∈ zids Y from hO1.1)
  have hk2 : k < (zfam f).2 := by rw [c4]; exact hk
  have ht := zfld_tag f (zcl_lt hr) k hk2
  have hw : (zws Y g)[q0]? = some (zad Y f q, .inr (f, (List.range r.2.2).map fun k => zfv Y ((zfld f).getD k (9, 0, 0)) q (g f q k))) := by rw [zws_at hq0, zcell_o c4]
  have hg : zok Y (zmv ((zfld f).getD k (9, 0, 0)) q (g f q k)) := zmv_ok hc ht.1 ht.2 ((hH.2.2 f q hO1.1).1 (by rw [c4]) k hk2)
  have hkk := kk p l e s m args below meth c H locs ls F hH hS hL (zok_cons.mpr ⟨hg, hO1.2⟩)
  rw [List.map_cons, zmv_val hc ht.1 ht.2] at hkk
  have hd : (r.2.1 k).1 = r.1 := (c5 k hk).1
  exact va_get (D := zD Y) (C := r.1) (T := r.2.1) (N := r.2.2) (ref := r.1) hx hb F.2.2.2.2.2.2.2.2.1 c1 F.2.2.2.2.2.2.2.1 F.2.2.2.2.2.2.2.2.2.1 hH.1 q0 hw hr k hk (F.2.2.2.2.2.2.2.2.1 _ hlink) (fun x hx => by rw [hd] at hx; exact hx) (v := zfv Y ((zfld f).getD k (9, 0, 0)) q (g f q k)) (by rw [List.getElem?_map, List.getElem?_range hk]; rfl) (zfx_dec F hT) hkk
/-- what may be put into a field -/
def zpv (t : Nat × Nat × Nat) (v : ZV) : Option Int := match t.1, v with
  | 0, .inl x => some x
  | 1, .inl x => if 0 ≤ x ∧ x ≤ 1 then some x else none
  | 5, .inr (.inr (.inl q)) => if q.1 = t.2.1 then some q.2 else none
  | 6, .inr (.inr (.inl q)) => if q.1 = t.2.1 then some q.2 else none
  | _, _ => none
theorem zbool_n {x : Int} (h : 0 ≤ x ∧ x ≤ 1) : narrow .boolean (.int (Int32.ofInt x)) = .int (Int32.ofInt x) ∧ fits .boolean (.int (Int32.ofInt x)) = true := by
  have : x = 0 ∨ x = 1 := by omega
  rcases this with rfl | rfl <;> exact ⟨by decide, by decide⟩
theorem zpv_ok {t : Nat × Nat × Nat} {i : Nat} {v : ZV} {x : Int} {C : String} {fd : String × String × String × Bool} (h : zpv t v = some x) (hv : zok Y v) (ht : ztag t C fd) : zval Y v = zfv Y t i x ∧ zfr Y t i x ∧ fd.2.2.2 = false ∧ ∃ ty, parseFieldDescriptor fd.2.2.1 = some ty ∧ narrow ty (zval Y v) = zval Y v ∧ fits ty (zval Y v) = true := by
  obtain ⟨a, b, c⟩ := t
  obtain ⟨-, ht⟩ := ht
  unfold zpv at h
  split at h
  · rename_i y e1
    cases h
    have e1 : a = 0 := e1
    subst e1
    exact ⟨rfl, hv, ht.1, _, ht.2, rfl, rfl⟩
  · rename_i y e1
    have e1 : a = 1 := e1
    subst e1
    split at h
    · rename_i hy
      cases h
      exact ⟨rfl, hy, ht.1, _, ht.2, (zbool_n hy).1, (zbool_n hy).2⟩
    · cases h
  · rename_i q e1
    have e1 : a = 5 := e1
    subst e1
    split at h
    · rename_i hq
      cases h
      have hq : q.1 = b := hq
      subst hq
      exact ⟨rfl, hv, ht.1, _, ht.2, rfl, rfl⟩
    · cases h
  · rename_i q e1
    have e1 : a = 6 := e1
    subst e1
    split at h
    · rename_i hq
      cases h
      have hq : q.1 = b := hq
      subst hq
      refine ⟨?_, fun _ => hv, ht.1, _, ht.2, rfl, rfl⟩
      show Value.ref _ = if (q.2 : Int) < 0 then .null else .ref _
      rw [if_neg (by omega)]
      rfl
    · cases h
  · cases h
theorem zs_putfield {idx f k q : Nat} {v : ZV} {x : Int} (hT : zat M pc = some (.putfield idx, 3)) (hP : zPl M idx = some (.inl (f, k))) (hv : zpv ((zfld f).getD k (9, 0, 0)) v = some x) (kk : ZVV Y M d Q (pc + 3) L S (zup g f q k x)) : ZVV Y M d Q pc L (v :: ZR f q :: S) g := by
  intro p l e s m args below meth c H locs ls F hH hS hL hO
  have hx := F.2.2.1
  have hb := F.2.2.2.1
  have hO1 := zok_cons.mp hO
  have hO2 := zok_cons.mp hO1.2
  obtain ⟨r, hr, hk, hlink⟩ := F.1.2.2.2.2 idx _ hP
  obtain ⟨c1, ⟨ty0, c2⟩, c3, c4, c5⟩ := zcl_all hr
  obtain ⟨q0, hq0⟩ := List.getElem?_of_mem (show (f, q) ∈ zids Y from hO2.1)
  have hk2 : k < (zfam f).2 := by rw [c4]; exact hk
  have hw : (zws Y g)[q0]? = some (zad Y f q, .inr (f, (List.range r.2.2).map fun k => zfv Y ((zfld f).getD k (9, 0, 0)) q (g f q k))) := by rw [zws_at hq0, zcell_o c4]
  obtain ⟨v1, v2, v3, ty, v4, v5, v6⟩ := zpv_ok (Y := Y) (i := q) hv hO1.1 (c5 k hk)
  have hd : (r.2.1 k).1 = r.1 := (c5 k hk).1
  refine va_put (D := zD Y) (C := r.1) (T := r.2.1) (N := r.2.2) (ref := r.1) hx hb F.2.2.2.2.2.2.2.2.1 c1 ty0 c2 c3 F.2.2.2.2.2.2.2.1 F.2.2.2.2.2.2.2.2.2.1 hH.1 hH.2.1 hS q0 hw hr k hk (F.2.2.2.2.2.2.2.2.1 _ hlink) (fun x hx => by rw [hd] at hx; exact hx) v3 v4 v5 v6 (by rw [List.length_map, List.length_range]; exact hk) (zfx_dec F hT) (fun H1 locs1 hP1 hD1 hS1 => ?_)
  have e0 : (zws Y g).set q0 (zad Y f q, .inr (f, ((List.range r.2.2).map fun k => zfv Y ((zfld f).getD k (9, 0, 0)) q (g f q k)).set k (zval Y v))) = zws Y (zup g f q k x) := by
    rw [zws_set hH.2.1 hq0, zcell_o c4]
    congr 4
    apply List.ext_getElem?
    intro j
    rw [List.getElem?_set, List.getElem?_map, List.getElem?_map, List.length_map, List.length_range]
    by_cases hj : k = j
    · subst hj
      rw [if_pos rfl, if_pos hk, List.getElem?_range hk, v1]
      simp [zup]
    · rw [if_neg hj]
      cases hh : (List.range r.2.2)[j]? with
      | none => rfl
      | some j' =>
        have : j' = j := by
          have := (List.getElem?_eq_some_iff.mp hh).2
          rw [List.getElem_range] at this; exact this.symm
        subst this
        show some _ = some _
        rw [zup_at]
        simp [Ne.symm hj]
  rw [e0] at hP1 hD1
  exact kk p l e s m args below meth c H1 locs1 ls F ⟨hP1, hD1, zrg_up hH.2.2 (fun _ => v2) (fun _ => by rw [c4]; trivial)⟩ hS1 hL hO2.2
theorem zs_iald {f q : Nat} {j : Int} {n : Nat} (hT : zat M pc = some (.iaload, 1)) (hf : zfam f = (1, n)) (h0 : 0 ≤ j) (h1 : j < n) (kk : ZVV Y M d Q (pc + 1) L (ZI (g f q j.toNat) :: S) g) : ZVV Y M d Q pc L (ZI j :: ZR f q :: S) g := by
  intro p l e s m args below meth c H locs ls F hH hS hL hO
  have hx := F.2.2.1
  have hb := F.2.2.2.1
  have hO1 := zok_cons.mp hO
  have hO2 := zok_cons.mp hO1.2
  obtain ⟨q0, hq0⟩ := List.getElem?_of_mem (show (f, q) ∈ zids Y from hO2.1)
  have hw : (zws Y g)[q0]? = some (zad Y f q, zcell Y f q (g f q)) := zws_at hq0
  obtain ⟨hin, he⟩ := zI_in hO1.1 h0 h1
  have hr := (hH.2.2 f q hO2.1).2 j.toNat (by rw [hf]; show j.toNat < n; omega)
  rw [hf] at hr
  have hkk := kk p l e s m args below meth c H locs ls F hH hS hL (zok_cons.mpr ⟨hr, hO2.2⟩)
  have hc : zcell Y f q (g f q) = .inl (zcA Y 1, n, .inl fun j => Int32.ofInt (g f q j)) := by unfold zcell; rw [hf]; rfl
  rw [hc] at hw
  refine va_iald hx hb F.2.2.2.2.2.2.2.2.2.1 hH.1 q0 0 hw rfl hin (zfx_dec F hT) ?_
  rw [he]
  exact hkk
theorem zs_bald {f q : Nat} {j : Int} {n : Nat} (hT : zat M pc = some (.baload, 1)) (hf : zfam f = (2, n)) (h0 : 0 ≤ j) (h1 : j < n) (kk : ZVV Y M d Q (pc + 1) L (ZI (g f q j.toNat) :: S) g) : ZVV Y M d Q pc L (ZI j :: ZR f q :: S) g := by
  intro p l e s m args below meth c H locs ls F hH hS hL hO
  have hx := F.2.2.1
  have hb := F.2.2.2.1
  have hO1 := zok_cons.mp hO
  have hO2 := zok_cons.mp hO1.2
  obtain ⟨q0, hq0⟩ := List.getElem?_of_mem (show (f, q) ∈ zids Y from hO2.1)
  have hw : (zws Y g)[q0]? = some (zad Y f q, zcell Y f q (g f q)) := zws_at hq0
  obtain ⟨hin, he⟩ := zI_in hO1.1 h0 h1
  have hr := (hH.2.2 f q hO2.1).2 j.toNat (by rw [hf]; show j.toNat < n; omega)
  rw [hf] at hr
  have hkk := kk p l e s m args below meth c H locs ls F hH hS hL (zok_cons.mpr ⟨by have hr : -128 ≤ g f q j.toNat ∧ g f q j.toNat < 128 := hr; exact ⟨by omega, by omega⟩, hO2.2⟩)
  have hc : zcell Y f q (g f q) = .inl (zcA Y 2, n, .inl fun j => Int32.ofInt (g f q j)) := by unfold zcell; rw [hf]; rfl
  rw [hc] at hw
  refine va_bald hx hb F.2.2.2.2.2.2.2.2.2.1 hH.1 q0 1 hw rfl hin (zfx_dec F hT) ?_
  rw [he]
  exact hkk
theorem zs_zald {f q : Nat} {j : Int} {n : Nat} (hT : zat M pc = some (.baload, 1)) (hf : zfam f = (3, n)) (h0 : 0 ≤ j) (h1 : j < n) (kk : ZVV Y M d Q (pc + 1) L (ZI (g f q j.toNat) :: S) g) : ZVV Y M d Q pc L (ZI j :: ZR f q :: S) g := by
  intro p l e s m args below meth c H locs ls F hH hS hL hO
  have hx := F.2.2.1
  have hb := F.2.2.2.1
  have hO1 := zok_cons.mp hO
  have hO2 := zok_cons.mp hO1.2
  obtain ⟨q0, hq0⟩ := List.getElem?_of_mem (show (f, q) ∈ zids Y from hO2.1)
  have hw : (zws Y g)[q0]? = some (zad Y f q, zcell Y f q (g f q)) := zws_at hq0
  obtain ⟨hin, he⟩ := zI_in hO1.1 h0 h1
  have hr := (hH.2.2 f q hO2.1).2 j.toNat (by rw [hf]; show j.toNat < n; omega)
  rw [hf] at hr
  have hkk := kk p l e s m args below meth c H locs ls F hH hS hL (zok_cons.mpr ⟨by have hr : 0 ≤ g f q j.toNat ∧ g f q j.toNat ≤ 1 := hr; exact ⟨by omega, by omega⟩, hO2.2⟩)
  have hc : zcell Y f q (g f q) = .inl (zcA Y 3, n, .inl fun j => Int32.ofInt (g f q j)) := by unfold zcell; rw [hf]; rfl
  rw [hc] at hw
  refine va_zald hx hb F.2.2.2.2.2.2.2.2.2.1 hH.1 q0 2 hw rfl hin (zfx_dec F hT) ?_
  rw [he]
  exact hkk
theorem zs_lald {f q : Nat} {j : Int} {n : Nat} (hT : zat M pc = some (.laload, 1)) (hf : zfam f = (4, n)) (h0 : 0 ≤ j) (h1 : j < n) (kk : ZVV Y M d Q (pc + 1) L (ZJ (g f q j.toNat) :: S) g) : ZVV Y M d Q pc L (ZI j :: ZR f q :: S) g := by
  intro p l e s m args below meth c H locs ls F hH hS hL hO
  have hx := F.2.2.1
  have hb := F.2.2.2.1
  have hO1 := zok_cons.mp hO
  have hO2 := zok_cons.mp hO1.2
  obtain ⟨q0, hq0⟩ := List.getElem?_of_mem (show (f, q) ∈ zids Y from hO2.1)
  have hw : (zws Y g)[q0]? = some (zad Y f q, zcell Y f q (g f q)) := zws_at hq0
  obtain ⟨hin, he⟩ := zI_in hO1.1 h0 h1
  have hr := (hH.2.2 f q hO2.1).2 j.toNat (by rw [hf]; show j.toNat < n; omega)
  rw [hf] at hr
  have hkk := kk p l e s m args below meth c H locs ls F hH hS hL (zok_cons.mpr ⟨hr, hO2.2⟩)
  have hc : zcell Y f q (g f q) = .inl (zcA Y 4, n, .inr (.inl fun j => Int64.ofInt (g f q j))) := by unfold zcell; rw [hf]; rfl
  rw [hc] at hw
  refine va_lald hx hb F.2.2.2.2.2.2.2.2.2.1 hH.1 q0 3 hw rfl hin (zfx_dec F hT) ?_
  rw [he]
  exact hkk
theorem zs_iast {f q : Nat} {j x : Int} {n : Nat} (hT : zat M pc = some (.iastore, 1)) (hf : zfam f = (1, n)) (h0 : 0 ≤ j) (h1 : j < n) (kk : ZVV Y M d Q (pc + 1) L S (zup g f q j.toNat x)) : ZVV Y M d Q pc L (ZI x :: ZI j :: ZR f q :: S) g := by
  intro p l e s m args below meth c H locs ls F hH hS hL hO
  have hx := F.2.2.1
  have hb := F.2.2.2.1
  have hO0 := zok_cons.mp hO
  have hO1 := zok_cons.mp hO0.2
  have hO2 := zok_cons.mp hO1.2
  obtain ⟨q0, hq0⟩ := List.getElem?_of_mem (show (f, q) ∈ zids Y from hO2.1)
  have hw : (zws Y g)[q0]? = some (zad Y f q, zcell Y f q (g f q)) := zws_at hq0
  obtain ⟨hin, he⟩ := zI_in hO1.1 h0 h1
  have hc : zcell Y f q (g f q) = .inl (zcA Y 1, n, .inl fun j => Int32.ofInt (g f q j)) := by unfold zcell; rw [hf]; rfl
  rw [hc] at hw
  refine va_iast hx hb F.2.2.2.2.2.2.2.2.2.1 hH.1 hH.2.1 hS q0 0 hw rfl hin (zfx_dec F hT) (fun H1 locs1 hP1 hD1 hS1 => ?_)
  have e0 : (zws Y g).set q0 (zad Y f q, .inl (zcA Y 1, n, .inl (upd (fun j => Int32.ofInt (g f q j)) (Int32.ofInt j).toNatClampNeg (Int32.ofInt x)))) = zws Y (zup g f q j.toNat x) := by
    rw [zws_set hH.2.1 hq0]
    have hc2 : zcell Y f q (zup g f q j.toNat x f q) = .inl (zcA Y 1, n, .inl fun b => Int32.ofInt (zup g f q j.toNat x f q b)) := by unfold zcell; rw [hf]; rfl
    have hfun : ((upd (fun j => Int32.ofInt (g f q j)) j.toNat (Int32.ofInt x))) = fun b => Int32.ofInt (zup g f q j.toNat x f q b) := by
      funext b
      rw [zup_at]
      unfold upd
      by_cases hb : b = j.toNat
      · simp [hb]
      · simp [hb]
    rw [hc2, he, hfun]
  rw [e0] at hP1 hD1
  refine kk p l e s m args below meth c H1 locs1 ls F ⟨hP1, hD1, zrg_up hH.2.2 (fun z => by rw [hf] at z; cases z) (fun _ => ?_)⟩ hS1 hL hO2.2
  rw [hf]
  exact hO0.1
theorem znar_b {x : Int} (h : -128 ≤ x ∧ x < 128) : vp_nar .byte (Int32.ofInt x) = Int32.ofInt x := by
  show (Int32.ofInt x).toInt8.toInt32 = _
  apply Int32.toInt.inj
  rw [Int8.toInt_toInt32, Int32.toInt_toInt8, zI_toInt ⟨by omega, by omega⟩]
  exact Int.bmod_eq_of_le (by omega) (by omega)
theorem znar_z {x : Int} (h : 0 ≤ x ∧ x ≤ 1) : vp_nar .boolean (Int32.ofInt x) = Int32.ofInt x := by
  have : x = 0 ∨ x = 1 := by omega
  rcases this with rfl | rfl <;> decide
theorem zs_bast {f q : Nat} {j x : Int} {n : Nat} (hT : zat M pc = some (.bastore, 1)) (hf : zfam f = (2, n)) (h0 : 0 ≤ j) (h1 : j < n) (hx2 : -128 ≤ x ∧ x < 128) (kk : ZVV Y M d Q (pc + 1) L S (zup g f q j.toNat x)) : ZVV Y M d Q pc L (ZI x :: ZI j :: ZR f q :: S) g := by
  intro p l e s m args below meth c H locs ls F hH hS hL hO
  have hx := F.2.2.1
  have hb := F.2.2.2.1
  have hO0 := zok_cons.mp hO
  have hO1 := zok_cons.mp hO0.2
  have hO2 := zok_cons.mp hO1.2
  obtain ⟨q0, hq0⟩ := List.getElem?_of_mem (show (f, q) ∈ zids Y from hO2.1)
  have hw : (zws Y g)[q0]? = some (zad Y f q, zcell Y f q (g f q)) := zws_at hq0
  obtain ⟨hin, he⟩ := zI_in hO1.1 h0 h1
  have hc : zcell Y f q (g f q) = .inl (zcA Y 2, n, .inl fun j => Int32.ofInt (g f q j)) := by unfold zcell; rw [hf]; rfl
  rw [hc] at hw
  refine va_bast hx hb F.2.2.2.2.2.2.2.2.2.1 hH.1 hH.2.1 hS q0 1 hw rfl hin (zfx_dec F hT) (fun H1 locs1 hP1 hD1 hS1 => ?_)
  have e0 : (zws Y g).set q0 (zad Y f q, .inl (zcA Y 2, n, .inl (upd (fun j => Int32.ofInt (g f q j)) (Int32.ofInt j).toNatClampNeg (vp_nar .byte (Int32.ofInt x))))) = zws Y (zup g f q j.toNat x) := by
    rw [zws_set hH.2.1 hq0]
    have hc2 : zcell Y f q (zup g f q j.toNat x f q) = .inl (zcA Y 2, n, .inl fun b => Int32.ofInt (zup g f q j.toNat x f q b)) := by unfold zcell; rw [hf]; rfl
    have hfun : ((upd (fun j => Int32.ofInt (g f q j)) j.toNat (vp_nar .byte (Int32.ofInt x)))) = fun b => Int32.ofInt (zup g f q j.toNat x f q b) := by
      funext b
      rw [zup_at]
      unfold upd
      by_cases hb : b = j.toNat
      · simp [hb, znar_b hx2]
      · simp [hb]
    rw [hc2, he, hfun]
  rw [e0] at hP1 hD1
  refine kk p l e s m args below meth c H1 locs1 ls F ⟨hP1, hD1, zrg_up hH.2.2 (fun z => by rw [hf] at z; cases z) (fun _ => ?_)⟩ hS1 hL hO2.2
  rw [hf]
  exact hx2
theorem zs_zast {f q : Nat} {j x : Int} {n : Nat} (hT : zat M pc = some (.bastore, 1)) (hf : zfam f = (3, n)) (h0 : 0 ≤ j) (h1 : j < n) (hx2 : 0 ≤ x ∧ x ≤ 1) (kk : ZVV Y M d Q (pc + 1) L S (zup g f q j.toNat x)) : ZVV Y M d Q pc L (ZI x :: ZI j :: ZR f q :: S) g := by
  intro p l e s m args below meth c H locs ls F hH hS hL hO
  have hx := F.2.2.1
  have hb := F.2.2.2.1
  have hO0 := zok_cons.mp hO
  have hO1 := zok_cons.mp hO0.2
  have hO2 := zok_cons.mp hO1.2
  obtain ⟨q0, hq0⟩ := List.getElem?_of_mem (show (f, q) ∈ zids Y from hO2.1)
  have hw : (zws Y g)[q0]? = some (zad Y f q, zcell Y f q (g f q)) := zws_at hq0
  obtain ⟨hin, he⟩ := zI_in hO1.1 h0 h1
  have hc : zcell Y f q (g f q) = .inl (zcA Y 3, n, .inl fun j => Int32.ofInt (g f q j)) := by unfold zcell; rw [hf]; rfl
  rw [hc] at hw
  refine va_zast hx hb F.2.2.2.2.2.2.2.2.2.1 hH.1 hH.2.1 hS q0 2 hw rfl hin (zfx_dec F hT) (fun H1 locs1 hP1 hD1 hS1 => ?_)
  have e0 : (zws Y g).set q0 (zad Y f q, .inl (zcA Y 3, n, .inl (upd (fun j => Int32.ofInt (g f q j)) (Int32.ofInt j).toNatClampNeg (vp_nar .boolean (Int32.ofInt x))))) = zws Y (zup g f q j.toNat x) := by
    rw [zws_set hH.2.1 hq0]
    have hc2 : zcell Y f q (zup g f q j.toNat x f q) = .inl (zcA Y 3, n, .inl fun b => Int32.ofInt (zup g f q j.toNat x f q b)) := by unfold zcell; rw [hf]; rfl
    have hfun : ((upd (fun j => Int32.ofInt (g f q j)) j.toNat (vp_nar .boolean (Int32.ofInt x)))) = fun b => Int32.ofInt (zup g f q j.toNat x f q b) := by
      funext b
      rw [zup_at]
      unfold upd
      by_cases hb : b = j.toNat
      · simp [hb, znar_z hx2]
      · simp [hb]
    rw [hc2, he, hfun]
  rw [e0] at hP1 hD1
  refine kk p l e s m args below meth c H1 locs1 ls F ⟨hP1, hD1, zrg_up hH.2.2 (fun z => by rw [hf] at z; cases z) (fun _ => ?_)⟩ hS1 hL hO2.2
  rw [hf]
  exact hx2
theorem zs_last {f q : Nat} {j x : Int} {n : Nat} (hT : zat M pc = some (.lastore, 1)) (hf : zfam f = (4, n)) (h0 : 0 ≤ j) (h1 : j < n) (kk : ZVV Y M d Q (pc + 1) L S (zup g f q j.toNat x)) : ZVV Y M d Q pc L (ZJ x :: ZI j :: ZR f q :: S) g := by
  intro p l e s m args below meth c H locs ls F hH hS hL hO
  have hx := F.2.2.1
  have hb := F.2.2.2.1
  have hO0 := zok_cons.mp hO
  have hO1 := zok_cons.mp hO0.2
  have hO2 := zok_cons.mp hO1.2
  obtain ⟨q0, hq0⟩ := List.getElem?_of_mem (show (f, q) ∈ zids Y from hO2.1)
  have hw : (zws Y g)[q0]? = some (zad Y f q, zcell Y f q (g f q)) := zws_at hq0
  obtain ⟨hin, he⟩ := zI_in hO1.1 h0 h1
  have hc : zcell Y f q (g f q) = .inl (zcA Y 4, n, .inr (.inl fun j => Int64.ofInt (g f q j))) := by unfold zcell; rw [hf]; rfl
  rw [hc] at hw
  refine va_last hx hb F.2.2.2.2.2.2.2.2.2.1 hH.1 hH.2.1 hS q0 3 hw rfl hin (zfx_dec F hT) (fun H1 locs1 hP1 hD1 hS1 => ?_)
  have e0 : (zws Y g).set q0 (zad Y f q, .inl (zcA Y 4, n, .inr (.inl (vp_updL (fun j => Int64.ofInt (g f q j)) (Int32.ofInt j).toNatClampNeg (Int64.ofInt x))))) = zws Y (zup g f q j.toNat x) := by
    rw [zws_set hH.2.1 hq0]
    have hc2 : zcell Y f q (zup g f q j.toNat x f q) = .inl (zcA Y 4, n, .inr (.inl fun b => Int64.ofInt (zup g f q j.toNat x f q b))) := by unfold zcell; rw [hf]; rfl
    have hfun : ((vp_updL (fun j => Int64.ofInt (g f q j)) j.toNat (Int64.ofInt x))) = fun b => Int64.ofInt (zup g f q j.toNat x f q b) := by
      funext b
      rw [zup_at]
      unfold vp_updL
      by_cases hb : b = j.toNat
      · simp [hb]
      · simp [hb]
    rw [hc2, he, hfun]
  rw [e0] at hP1 hD1
  refine kk p l e s m args below meth c H1 locs1 ls F ⟨hP1, hD1, zrg_up hH.2.2 (fun z => by rw [hf] at z; cases z) (fun _ => ?_)⟩ hS1 hL hO2.2
  rw [hf]
  exact hO0.1
theorem zs_aald5 {f q : Nat} {j : Int} {n : Nat} (hT : zat M pc = some (.aaload, 1)) (hf : zfam f = (5, n)) (h0 : 0 ≤ j) (h1 : j < n) (kk : ZVV Y M d Q (pc + 1) L (ZR 3 j.toNat :: S) g) : ZVV Y M d Q pc L (ZI j :: ZR f q :: S) g := by
  intro p l e s m args below meth c H locs ls F hH hS hL hO
  have hx := F.2.2.1
  have hb := F.2.2.2.1
  have hO1 := zok_cons.mp hO
  have hO2 := zok_cons.mp hO1.2
  obtain ⟨q0, hq0⟩ := List.getElem?_of_mem (show (f, q) ∈ zids Y from hO2.1)
  have hw : (zws Y g)[q0]? = some (zad Y f q, zcell Y f q (g f q)) := zws_at hq0
  obtain ⟨hin, he⟩ := zI_in hO1.1 h0 h1
  have hr : (3, j.toNat) ∈ zids Y := (F.2.1 f q hO2.1).2.1 (by rw [hf]) j.toNat (by rw [hf]; show j.toNat < n; omega)
  have hkk := kk p l e s m args below meth c H locs ls F hH hS hL (zok_cons.mpr ⟨hr, hO2.2⟩)
  have hc : zcell Y f q (g f q) = .inl (zcA Y 5, n, .inr (.inr (.inr (.inr fun j => some (zad Y 3 j))))) := by unfold zcell; rw [hf]; rfl
  rw [hc] at hw
  refine va_aldq hx hb F.2.2.2.2.2.2.2.2.2.1 hH.1 q0 4 hw rfl hin (zfx_dec F hT) ?_
  rw [he]
  exact hkk
theorem zs_aald6 {f q : Nat} {j : Int} {n : Nat} (hT : zat M pc = some (.aaload, 1)) (hf : zfam f = (6, n)) (h0 : 0 ≤ j) (h1 : j < n) (kk : ZVV Y M d Q (pc + 1) L (ZR 4 j.toNat :: S) g) : ZVV Y M d Q pc L (ZI j :: ZR f q :: S) g := by
  intro p l e s m args below meth c H locs ls F hH hS hL hO
  have hx := F.2.2.1
  have hb := F.2.2.2.1
  have hO1 := zok_cons.mp hO
  have hO2 := zok_cons.mp hO1.2
  obtain ⟨q0, hq0⟩ := List.getElem?_of_mem (show (f, q) ∈ zids Y from hO2.1)
  have hw : (zws Y g)[q0]? = some (zad Y f q, zcell Y f q (g f q)) := zws_at hq0
  obtain ⟨hin, he⟩ := zI_in hO1.1 h0 h1
  have hr : (4, j.toNat) ∈ zids Y := (F.2.1 f q hO2.1).2.2 (by rw [hf]) j.toNat (by rw [hf]; show j.toNat < n; omega)
  have hkk := kk p l e s m args below meth c H locs ls F hH hS hL (zok_cons.mpr ⟨hr, hO2.2⟩)
  have hc : zcell Y f q (g f q) = .inl (zcA Y 6, n, .inr (.inr (.inr (.inr fun j => some (zad Y 4 j))))) := by unfold zcell; rw [hf]; rfl
  rw [hc] at hw
  refine va_aldq hx hb F.2.2.2.2.2.2.2.2.2.1 hH.1 q0 5 hw rfl hin (zfx_dec F hT) ?_
  rw [he]
  exact hkk
theorem zs_alen {f q : Nat} (hT : zat M pc = some (.arraylength, 1)) (hf : (zfam f).1 = 1) (hn : (zfam f).2 < 100000) (kk : ZVV Y M d Q (pc + 1) L (ZI ((zfam f).2 : Nat) :: S) g) : ZVV Y M d Q pc L (ZR f q :: S) g := by
  intro p l e s m args below meth c H locs ls F hH hS hL hO
  have hx := F.2.2.1
  have hb := F.2.2.2.1
  have hO1 := zok_cons.mp hO
  obtain ⟨q0, hq0⟩ := List.getElem?_of_mem (show (f, q) ∈ zids Y from hO1.1)
  have hw : (zws Y g)[q0]? = some (zad Y f q, zcell Y f q (g f q)) := zws_at hq0
  have hc : zcell Y f q (g f q) = .inl (zcA Y 1, (zfam f).2, .inl fun j => Int32.ofInt (g f q j)) := by unfold zcell; rw [hf]; rfl
  rw [hc] at hw
  exact va_alen hx hb F.2.2.2.2.2.2.2.2.2.1 hH.1 q0 0 hw (ty := .int) rfl (v := Int32.ofInt ((zfam f).2 : Nat)) Int32.ofInt_eq_ofNat.symm (zfx_dec F hT) (kk p l e s m args below meth c H locs ls F hH hS hL (zok_cons.mpr ⟨⟨by omega, by omega⟩, hO1.2⟩))
theorem zs_ldc2 {idx : Nat} {x : Int} (hT : zat M pc = some (.ldc2_w idx, 3)) (hP : zPl M idx = some (.inr (ZJ x))) (kk : ZVV Y M d Q (pc + 3) L (ZJ x :: S) g) : ZVV Y M d Q pc L S g := by
  intro p l e s m args below meth c H locs ls F hH hS hL hO
  have hx := F.2.2.1
  have hb := F.2.2.2.1
  obtain ⟨h1, h2⟩ := F.1.2.2.2.2 idx _ hP
  exact lv_ldc2 hx hb F.2.2.2.2.2.2.2.1 (F.2.2.2.2.2.2.2.2.1 _ h1) (zfx_dec F hT) (kk p l e s m args below meth c H locs ls F hH hS hL (zok_cons.mpr ⟨h2, hO⟩))
theorem zs_gets {idx k : Nat} (hT : zat M pc = some (.getstatic idx, 3)) (hP : zPl M idx = some (.inr (ZX k))) (hk : k < 2) (kk : ZVV Y M d Q (pc + 3) L (ZX k :: S) g) : ZVV Y M d Q pc L S g := by
  intro p l e s m args below meth c H locs ls F hH hS hL hO
  have hx := F.2.2.1
  have hb := F.2.2.2.1
  have hkk := kk p l e s m args below meth c H locs ls F hH hS hL (zok_cons.mpr ⟨trivial, hO⟩)
  rcases F.1.2.2.2.2 idx _ hP with ⟨rfl, h1⟩ | ⟨rfl, h1⟩ | ⟨i, -, h2, -⟩
  · exact va_gets hx hb F.2.2.2.2.2.2.2.2.2.2.1 hS F.2.2.2.2.2.2.2.1 (ref := "ThirdAlike") (F.2.2.2.2.2.2.2.2.1 _ h1) (fun _ h => h) (zfx_dec F hT) hkk
  · exact va_gets hx hb F.2.2.2.2.2.2.2.2.2.2.2.2.1 hS F.2.2.2.2.2.2.2.1 (ref := "ThirdAlike") (F.2.2.2.2.2.2.2.2.1 _ h1) (fun _ h => h) (zfx_dec F hT) hkk
  · exact absurd hk (by omega)
theorem zs_ldcS {idx k : Nat} (hT : zat M pc = some (.ldc idx, 2)) (hP : zPl M idx = some (.inr (ZX k))) (hk : 2 ≤ k) (kk : ZVV Y M d Q (pc + 2) L (ZX k :: S) g) : ZVV Y M d Q pc L S g := by
  intro p l e s m args below meth c H locs ls F hH hS hL hO
  have hx := F.2.2.1
  have hb := F.2.2.2.1
  have hkk := kk p l e s m args below meth c H locs ls F hH hS hL (zok_cons.mpr ⟨trivial, hO⟩)
  rcases F.1.2.2.2.2 idx _ hP with ⟨rfl, h1⟩ | ⟨rfl, h1⟩ | ⟨i, h1, h2, h3, h4⟩
  · exact absurd hk (by decide)
  · exact absurd hk (by decide)
  · subst h2
    have hR := F.2.2.2.2.2.2.2.2.2.2.2.2.2.2.2.1 i h1
    rw [← h3, ← h4] at hR
    exact va_ldcS hx hb F.2.2.2.2.2.2.2.1 hR (zfx_dec F hT) hkk
theorem zs_xald {k : Nat} {j : Int} (hT : zat M pc = some (.iaload, 1)) (hk : k < 2) (h0 : 0 ≤ j) (h1 : j < (zxr k).length) (kk : ZVV Y M d Q (pc + 1) L (ZI ((zxr k).getD j.toNat 0) :: S) g) : ZVV Y M d Q pc L (ZI j :: ZX k :: S) g := by
  intro p l e s m args below meth c H locs ls F hH hS hL hO
  have hx := F.2.2.1
  have hb := F.2.2.2.1
  have hO1 := zok_cons.mp hO
  have hO2 := zok_cons.mp hO1.2
  have hr : ∀ k, k < 2 → ∀ j, j < 11 → -2147483648 ≤ (zxr k).getD j 0 ∧ (zxr k).getD j 0 < 2147483648 := by decide +kernel
  have hl : (zxr k).length ≤ 11 := (by decide : ∀ k, k < 2 → (zxr k).length ≤ 11) k hk
  have hkk := kk p l e s m args below meth c H locs ls F hH hS hL (zok_cons.mpr ⟨hr k hk j.toNat (by omega), hO2.2⟩)
  have hcs : k = 0 ∨ k = 1 := by omega
  rcases hcs with rfl | rfl
  · have h1 : j < (7 : Nat) := h1
    obtain ⟨hin, he⟩ := zI_in hO1.1 h0 h1
    exact va_ti hx hb F.2.2.2.2.2.2.2.2.2.2.2.1 hS hin (v := .int (Int32.ofInt ((zxr 0).getD j.toNat 0))) (by rw [he]) (zfx_dec F hT) hkk
  · have h1 : j < (11 : Nat) := h1
    obtain ⟨hin, he⟩ := zI_in hO1.1 h0 h1
    exact va_ti hx hb F.2.2.2.2.2.2.2.2.2.2.2.2.2.1 hS hin (v := .int (Int32.ofInt ((zxr 1).getD j.toNat 0))) (by rw [he]) (zfx_dec F hT) hkk
theorem zs_xlen {k : Nat} (hT : zat M pc = some (.arraylength, 1)) (hk : k < 2) (kk : ZVV Y M d Q (pc + 1) L (ZI ((zxr k).length : Nat) :: S) g) : ZVV Y M d Q pc L (ZX k :: S) g := by
  intro p l e s m args below meth c H locs ls F hH hS hL hO
  have hx := F.2.2.1
  have hb := F.2.2.2.1
  have hO1 := zok_cons.mp hO
  have hcs : k = 0 ∨ k = 1 := by omega
  rcases hcs with rfl | rfl
  · exact va_tlen hx hb F.2.2.2.2.2.2.2.2.2.2.2.1 hS (v := Int32.ofInt (7 : Nat)) Int32.ofInt_eq_ofNat.symm (zfx_dec F hT) (kk p l e s m args below meth c H locs ls F hH hS hL (zok_cons.mpr ⟨⟨by decide, by decide⟩, hO1.2⟩))
  · exact va_tlen hx hb F.2.2.2.2.2.2.2.2.2.2.2.2.2.1 hS (v := Int32.ofInt (11 : Nat)) Int32.ofInt_eq_ofNat.symm (zfx_dec F hT) (kk p l e s m args below meth c H locs ls F hH hS hL (zok_cons.mpr ⟨⟨by decide, by decide⟩, hO1.2⟩))
theorem zs_ireturn {x : Int} (hT : zat M pc = some (.ireturn, 1)) (hr : zret M = some .int) (hq : Q (some (ZI x)) g) : ZVV Y M d Q pc L [ZI x] g := by
  intro p l e s m args below meth c H locs ls F hH hS hL hO
  have hx := F.2.2.1
  have hb := F.2.2.2.1
  have hr' : meth.sig.returnType = some .int := F.2.2.2.2.2.1.trans hr
  have hlk := F.2.2.2.2.2.2.1
  exact W.iret hx hb hr' (fun t ht hW => ⟨⟨some (ZI x), g, rfl, hq, fun v hv => by cases hv; exact (zok_cons.mp hO).1, by rw [ht]; exact hH⟩, hS.F ht⟩) hS.2.2 (zfx_dec F hT) hlk
theorem zs_zreturn {x : Int} (hT : zat M pc = some (.ireturn, 1)) (hr : zret M = some .boolean) (hx2 : 0 ≤ x ∧ x ≤ 1) (hq : Q (some (ZI x)) g) : ZVV Y M d Q pc L [ZI x] g := by
  intro p l e s m args below meth c H locs ls F hH hS hL hO
  have hx := F.2.2.1
  have hb := F.2.2.2.1
  have hr' : meth.sig.returnType = some .boolean := F.2.2.2.2.2.1.trans hr
  have hlk := F.2.2.2.2.2.2.1
  exact W.zret hx hb hr' (zbool_n hx2).1 (fun t ht hW => ⟨⟨some (ZI x), g, rfl, hq, fun v hv => by cases hv; exact (zok_cons.mp hO).1, by rw [ht]; exact hH⟩, hS.F ht⟩) hS.2.2 (zfx_dec F hT) hlk
theorem zs_lreturn {x : Int} (hT : zat M pc = some (.lreturn, 1)) (hr : zret M = some .long) (hq : Q (some (ZJ x)) g) : ZVV Y M d Q pc L [ZJ x] g := by
  intro p l e s m args below meth c H locs ls F hH hS hL hO
  have hx := F.2.2.1
  have hb := F.2.2.2.1
  have hr' : meth.sig.returnType = some .long := F.2.2.2.2.2.1.trans hr
  have hlk := F.2.2.2.2.2.2.1
  exact W.lret hx hb hr' (fun t ht hW => ⟨⟨some (ZJ x), g, rfl, hq, fun v hv => by cases hv; exact (zok_cons.mp hO).1, by rw [ht]; exact hH⟩, hS.F ht⟩) hS.2.2 (zfx_dec F hT) hlk
theorem zs_return (hT : zat M pc = some (.return_, 1)) (hr : zret M = none) (hq : Q none g) : ZVV Y M d Q pc L [] g := by
  intro p l e s m args below meth c H locs ls F hH hS hL hO
  have hx := F.2.2.1
  have hb := F.2.2.2.1
  have hr' : meth.sig.returnType = none := F.2.2.2.2.2.1.trans hr
  have hlk := F.2.2.2.2.2.2.1
  exact W.vret hx hb hr' (fun t ht hW => ⟨⟨none, g, rfl, hq, (fun v hv => nomatch hv), by rw [ht]; exact hH⟩, hS.F ht⟩) hS.2.2 (zfx_dec F hT) hlk
end ZM1
end
section
/-! contracts -/
def zpre (Y : ZW) (av : List ZV) (g : ZG) : Array Value → State → Prop := va_Pc (av.map (zval Y)) (fun U => zH Y g U.heap ∧ va_K (zD Y) vwCl (ztys Y) U ∧ zExt Y U U.heap)
def ZC (M : ZM) (d : Nat) (pre : List ZV → ZG → Prop) (post : List ZV → ZG → Option ZV → ZG → Prop) : Prop :=
  ∀ (l : Launch) (Y : ZW) (av : List ZV) (g : ZG), zwf Y → (∀ v, v ∈ av → zok Y v) → pre av g → Met l (zy M) (Cond.code (zy M) (zcc M) (zn M) (zret M) :: zTB) (zrm d) (zpre Y av g) (zQ Y (post av g)) 0 0 (zZ Y)
def zfl (av : List ZV) : List ZV := match av with
  | [] => []
  | .inr (.inl x) :: r => ZJ x :: ZX 99 :: zfl r
  | v :: r => v :: zfl r
def zent (av : List ZV) (n : Nat) : List ZV := zfl av ++ List.replicate (n - (zfl av).length) (ZX 99)
theorem zfl_len (Y : ZW) (av : List ZV) : (lg_sl (av.map (zval Y))).length = (zfl av).length := by
  induction av with
  | nil => rfl
  | cons v r ih =>
    have h1 : ∀ (w : Value) (ws : List Value), (lg_sl (w :: ws)).length = (if w.category = 2 then 2 else 1) + (lg_sl ws).length := by
      intro w ws
      unfold lg_sl
      rw [List.flatMap_cons, List.length_append]
      split <;> rfl
    rw [List.map_cons, h1, ih]
    rcases v with x | x | x | x
    · show 1 + _ = _ + 1; omega
    · show 2 + _ = _ + 1 + 1; omega
    · show 1 + _ = _ + 1; omega
    · show 1 + _ = _ + 1; omega
theorem zfl_args (Y : ZW) (av : List ZV) : ∀ (b j : Nat) (v : ZV), (zfl av)[j]? = some v → v ≠ ZX 99 → (b + j, zval Y v) ∈ lv_args b (av.map (zval Y)) ∧ v ∈ av := by
  induction av with
  | nil => intro b j v h; simp [zfl] at h
  | cons u r ih =>
    intro b j v h hv
    have one : ∀ (hu : ∀ x, u ≠ ZJ x), (b + j, zval Y v) ∈ lv_args b ((u :: r).map (zval Y)) ∧ v ∈ u :: r := by
      intro hu
      have hz : zfl (u :: r) = u :: zfl r := by
        rcases u with x | x | x | x
        · rfl
        · exact absurd rfl (hu x)
        · rfl
        · rfl
      rw [hz] at h
      have hc : ¬ (zval Y u).category = 2 := by rw [zcat1 hu]; decide
      rw [List.map_cons]
      unfold lv_args
      rw [if_neg hc]
      cases j with
      | zero =>
        have h : u = v := by simpa using h
        subst h
        exact ⟨List.mem_cons_self, List.mem_cons_self⟩
      | succ j =>
        have h : (zfl r)[j]? = some v := by simpa using h
        obtain ⟨h1, h2⟩ := ih (b + 1) j v h hv
        rw [show b + 1 + j = b + (j + 1) by omega] at h1
        exact ⟨List.mem_cons_of_mem _ h1, List.mem_cons_of_mem _ h2⟩
    rcases u with x | x | x | x
    · exact one (fun y z => by cases z)
    · have hz : zfl (ZJ x :: r) = ZJ x :: ZX 99 :: zfl r := rfl
      rw [hz] at h
      rw [List.map_cons]
      unfold lv_args
      rw [if_pos (show (zval Y (ZJ x)).category = 2 from rfl)]
      match j, h with
      | 0, h =>
        have h : ZJ x = v := by simpa using h
        subst h
        exact ⟨List.mem_cons_self, List.mem_cons_self⟩
      | 1, h =>
        have h : ZX 99 = v := by simpa using h
        exact absurd h.symm hv
      | j + 2, h =>
        have h : (zfl r)[j]? = some v := by simpa using h
        obtain ⟨h1, h2⟩ := ih (b + 2) j v h hv
        rw [show b + 2 + j = b + (j + 2) by omega] at h1
        exact ⟨List.mem_cons_of_mem _ h1, List.mem_cons_of_mem _ h2⟩
    · exact one (fun y z => by cases z)
    · exact one (fun y z => by cases z)
theorem zExt_to {Y : ZW} {s U : State} {H : Heap} {locs : List Loc} (h : zExt Y s s.heap) (hS : va_S (zZ Y) s.heap H locs) (hW : s.WarmedH U.vm) (hU : U.heap = H) : zExt Y U U.heap := by
  obtain ⟨h1, h2, h3, h4, h5, h6, h7, h8, h9⟩ := h
  rw [hU]
  have ha := hW.alike
  refine ⟨(h1.moved ha).kept hS.2.1, (h2.moved ha).kept hS.2.1, (h3.moved ha).kept hS.2.1, (h4.moved ha).kept hS.2.1, (h5.moved ha).kept hS.2.1, fun i hi => (h6 i hi).warm hW, (h7.moved ha).kept hS.2.1, ?_, fun i y hy => (h9 i y hy).warmM hW⟩
  rcases h8 with q | ⟨t, q⟩
  · exact Or.inl ((q.moved ha).kept hS.2.1)
  · exact Or.inr ⟨t, (q.moved ha).kept hS.2.1⟩
theorem zpre_blind (Y : ZW) (av : List ZV) (g : ZG) : FrameBlind (zpre Y av g) := by
  intro a U gf mk q
  obtain ⟨q0, q1, q2, q3⟩ := q
  refine ⟨q0, q1, va_K.moved (u := U) (U := U.calling gf mk a) (Vm.Alike.refl U.vm) q2, ?_⟩
  obtain ⟨h1, h2, h3, h4, h5, h6, h7, h8, h9⟩ := q3
  have ha : U.vm.Alike (U.calling gf mk a).vm := Vm.Alike.refl U.vm
  refine ⟨h1.moved ha, h2.moved ha, h3.moved ha, h4.moved ha, h5.moved ha, fun i hi => (h6 i hi).same rfl, h7.moved ha, ?_, fun i y hy => (h9 i y hy).same rfl rfl⟩
  rcases h8 with q | ⟨t, q⟩
  · exact Or.inl (q.moved ha)
  · exact Or.inr ⟨t, q.moved ha⟩
theorem zc_of {M : ZM} {d : Nat} {pre : List ZV → ZG → Prop} {post : List ZV → ZG → Option ZV → ZG → Prop} (hg : zgood M) (hlen : ∀ av g, pre av g → (zfl av).length ≤ zn M) (body : ∀ Y av g, zwf Y → zrg Y g → pre av g → (∀ v, v ∈ av → zok Y v) → ZVV Y M d (post av g) 0 (zent av (zn M)) [] g) : ZC M d pre post := by
  intro l Y av g hwf hok hp
  refine Met.ofW (cc := zcc M) (maxL := zn M) (ret := zret M) hg.1 rfl ?_
  intro p e s m args below meth c s₁ B hml hv
  obtain ⟨rfl, hH, hK, hE⟩ := hv
  have hts0 := atoms_spec (ws := Cond.code (zy M) (zcc M) (zn M) (zret M) :: zTB) B.pre
  have hts : ∀ w ∈ zTB, w.before (av.map (zval Y)).toArray s = true := fun w hw => hts0 w (List.mem_cons_of_mem _ hw)
  have hown : s.vm.findClass (zown M) = some m.cls := by rw [← hg.2.1]; exact findClass_of_methodNamed B.named
  have hlen' : (lg_sl (av.map (zval Y))).length ≤ zn M := by rw [zfl_len]; exact hlen av g hp
  have hl := lv_entry (av.map (zval Y)) (n := zn M) hlen'
  rw [lg_entry_eq]
  have hL : zLs Y (zent av (zn M)) ((lg_sl (av.map (zval Y)) ++ List.replicate (zn M - (lg_sl (av.map (zval Y))).length) Slot.unset).toArray) (zn M) := by
    refine ⟨hl.1, hl.2.1, ?_, fun j v hj hv => ?_⟩
    · unfold zent
      rw [List.length_append, List.length_replicate]
      have := hlen av g hp
      omega
    · unfold zent at hj
      rw [List.getElem?_append] at hj
      by_cases hlt : j < (zfl av).length
      · rw [if_pos hlt] at hj
        obtain ⟨h1, h2⟩ := zfl_args Y av 0 j v hj hv
        rw [Nat.zero_add] at h1
        exact ⟨hl.2.2 _ h1, hok v h2⟩
      · rw [if_neg hlt, List.getElem?_replicate] at hj
        split at hj
        · cases hj; exact absurd rfl hv
        · cases hj
  exact body Y av g hwf hH.2.2 hp hok p l e s m _ below meth c s.heap [] _ ⟨hg, hwf, B.exec, B.bytes, hml, B.returns, B.notSynchronized, hown, hts, hK, hE⟩ hH va_S.rf hL (fun v hv => by cases hv)
theorem zc_weaken {M : ZM} {d : Nat} {pre pre' : List ZV → ZG → Prop} {post post' : List ZV → ZG → Option ZV → ZG → Prop} (h : ZC M d pre post) (h1 : ∀ av g, pre' av g → pre av g) (h2 : ∀ av g r g', pre' av g → post av g r g' → post' av g r g') : ZC M d pre' post' := by
  intro l Y av g hwf hok hp
  have h := h l Y av g hwf hok (h1 av g hp)
  refine (fun (hq : ∀ a st o t, zQ Y (post av g) a st o t → zQ Y (post' av g) a st o t) => ?_) ?_
  · exact MetFree.mono h (fun _ _ z => z) (fun _ _ _ _ _ z => z) (fun a st o t _ z => ⟨hq a st o t z.1, z.2⟩)
  · rintro a st o t ⟨⟨r, g', e1, e2, e3, e4⟩, hF⟩
    exact ⟨⟨r, g', e1, h2 av g r g' hp e2, e3, e4⟩, hF⟩
/-- a call's words -/
def zlk (own : String) (idx : Nat) (M : ZM) (n : Nat) : Prop := Cond.methodLink own idx (zy M) ∈ zTB ∧ Cond.initialized (zy M).cls ∈ zTB ∧ ((zy M).cls ≠ "java/lang/invoke/MethodHandle" ∧ (zy M).cls ≠ "java/lang/invoke/VarHandle" ∧ (parseMethodDescriptor (zy M).desc).map (fun d => d.parameters.length) = some n) ∧ zn M ≤ 21 ∧ Cond.code (zy M) (zcc M) (zn M) (zret M) ∈ zTB
def zlkN (own : String) (idx : Nat) (M : ZM) (n : Nat) (host : String) : Prop := own = "ThirdAlike" ∧ host = "ThirdAlike" ∧ Cond.methodLinkNest "ThirdAlike" idx (zy M) "ThirdAlike" ∈ tables_1 ∧ Cond.initialized (zy M).cls ∈ zTB ∧ ((zy M).cls ≠ "java/lang/invoke/MethodHandle" ∧ (zy M).cls ≠ "java/lang/invoke/VarHandle" ∧ (parseMethodDescriptor (zy M).desc).map (fun d => d.parameters.length) = some n) ∧ zn M ≤ 21 ∧ Cond.code (zy M) (zcc M) (zn M) (zret M) ∈ zTB
def zvirt (f : Nat) (M : ZM) : Prop := ((vwCl[f]?).map fun r => r.1) = some (zy M).cls ∧ Cond.instanceMethod (zy M) ∈ zTB ∧ Cond.selects (zy M).cls (zy M) (zy M) ∈ zTB
theorem zgood_in {c : Cond} (h : c ∈ zTB) : GoodIn zTB (c :: zTB) := fun w hw => by
  have hm : w ∈ zTB := by
    rcases List.mem_cons.mp hw with rfl | hw
    · exact h
    · exact hw
  exact ⟨hm, good_of_word (List.mem_filter.mp hm).2⟩
def zcat (v : ZV) : Nat := match v with
  | .inr (.inl _) => 2
  | _ => 1
theorem zcat_sum (Y : ZW) (S : List ZV) : ((S.map (zval Y)).map fun v => v.category).sum = (S.map zcat).sum := by
  induction S with
  | nil => rfl
  | cons v r ih =>
    rw [List.map_cons, List.map_cons, List.sum_cons, ih, List.map_cons, List.sum_cons]
    congr 1
    rcases v with x | x | x | x <;> rfl
theorem zrun {p : Program} {l : Launch} {e : Env} {R : Room} {s : State} {m : MethodId} {args : Array Value} {below : List Frame} {meth : Method} {c : Code} {H : Heap} {locs : List Loc} {Q : State → Prop} {pc : Nat} {ls : Array Slot} {rest st0 : List Value} {a : Array Value} {Y : ZW} {Qp : Option ZV → ZG → Prop}
    (hr : va_Run p l e R s m args below meth c H locs 0 0 0 0 (F0 m pc ls st0) rest (zQ Y Qp a) (zZ Y)) (hS : va_S (zZ Y) s.heap H locs)
    (kk : ∀ (r : Option ZV) (g' : ZG) (H1 : Heap) (locs1 : List Loc), Qp r g' → (∀ v, r = some v → zok Y v) → zH Y g' H1 → va_S (zZ Y) s.heap H1 locs1 → W p l e R s m args below meth c H1 locs1 0 0 Q (F0 m (pc + 3) ls ((r.map (zval Y)).toList ++ rest))) : W p l e R s m args below meth c H locs 0 0 Q (F0 m pc ls st0) := by
  intro T hT X
  obtain ⟨v, st₀, t, T', L, h0, X', hL, e1, e2, ⟨⟨r, g', hv, hq, hok, hH⟩, hz, hk⟩, st⟩ := hr T hT X
  have hv : v = r.map (zval Y) := Outcome.returned.inj hv
  subst hv
  rw [h0] at hz hk
  obtain ⟨t2, a1, b1⟩ := kk r g' T'.heap (locs ++ L) hq hok (by rw [e1]; exact hH)
    ⟨Nat.le_trans hS.1 (by rw [e1]; exact hz), fun q h1 h2 => by rw [e1, hk q (Nat.lt_of_lt_of_le h1 hS.1) h2]; exact hS.2.1 q h1 h2, fun q hq => by
      rcases List.mem_append.mp hq with h | h
      · exact hS.2.2 q h
      · exact hL q h⟩ T' rfl X'
  exact ⟨t2, st t2 a1, b1⟩
section ZK
variable {Y : ZW} {M M' : ZM} {d d' : Nat} {Q : Option ZV → ZG → Prop} {pc idx n : Nat} {L S St As : List ZV} {g : ZG} {pre : List ZV → ZG → Prop} {post : List ZV → ZG → Option ZV → ZG → Prop}
theorem zs_callV {f q : Nat} {host : String} (hT : zat M pc = some (.invokevirtual idx, 3)) (hl : zlk (zown M) idx M' n) (hv : zvirt f M') (hC : ZC M' d' pre post) (As : List ZV) (S : List ZV) (hst : St = As.reverse ++ ZR f q :: S) (hd : d' + 1 ≤ d) (hn : As.length = n) (hcat : (S.map zcat).sum ≤ 8) (hp : pre (ZR f q :: As) g) (kk : ∀ r g', post (ZR f q :: As) g r g' → ZVV Y M d Q (pc + 3) L (r.toList ++ S) g') : ZVV Y M d Q pc L St g := by
  subst hst
  intro p l e s m args below meth c H locs ls F hH hS hL hO
  have hx := F.2.2.1
  have hb := F.2.2.2.1
  have hts := F.2.2.2.2.2.2.2.2.1
  have hOA : ∀ v, v ∈ (ZR f q :: As) → zok Y v := fun v hv => hO v (by first | (rw [List.mem_append, List.mem_reverse]; exact Or.inl hv) | (rw [List.mem_append, List.mem_reverse]; rcases List.mem_cons.mp hv with rfl | hv; exact Or.inr List.mem_cons_self; exact Or.inl hv))
  have hOS : ∀ v, v ∈ S → zok Y v := fun v hv => hO v (by first | (rw [List.mem_append]; exact Or.inr (List.mem_cons_of_mem _ hv)) | (rw [List.mem_append]; exact Or.inr hv))
  obtain ⟨k1, k2, k3, k4, k5⟩ := hl
  have hM := hC l Y (ZR f q :: As) g F.2.1 hOA hp
  have hRm : (zrm d').frames + 1 ≤ (zrm d).frames ∧ 8 + (zn M' + 11) + (zrm d').locals ≤ (zrm d).locals := by
    refine ⟨hd, ?_⟩
    show 8 + (zn M' + 11) + 40 * d' ≤ 40 * d
    omega
  have hpre : ∀ U : State, U.heap = H → s.WarmedH U.vm → zpre Y (ZR f q :: As) g ((ZR f q :: As).map (zval Y)).toArray U := fun U hU hW => ⟨rfl, by rw [hU]; exact hH, va_K.moved hW.alike F.2.2.2.2.2.2.2.2.2.1, zExt_to F.2.2.2.2.2.2.2.2.2.2 hS hW hU⟩
  obtain ⟨v1, v2, v3⟩ := hv
  have hr : ∃ r : vw_C, vwCl[f]? = some r ∧ r.1 = (zy M').cls := by
    cases hh : vwCl[f]? with
    | none => rw [hh] at v1; cases v1
    | some r => rw [hh] at v1; exact ⟨r, rfl, Option.some.inj v1⟩
  obtain ⟨rr, hr1, hr2⟩ := hr
  obtain ⟨q0, hq0⟩ := List.getElem?_of_mem (show (f, q) ∈ zids Y from hOA _ List.mem_cons_self)
  have hrec := va_recv (H := H) F.2.2.2.2.2.2.2.2.2.1 hH.1 hr1 (by rw [zws_at hq0, zcell_o (zcl_all hr1).2.2.2.1])
  rw [hr2] at hrec
  refine zrun (Qp := post (ZR f q :: As) g) (rest := S.map (zval Y)) (a := ((ZR f q :: As).map (zval Y)).toArray) ?_ hS ?_
  · exact va_runV (As := As.map (zval Y)) (n := n) (nL := zn M) ⟨hx, hb, F.2.2.2.2.1, F.2.2.2.2.2.2.2.1, hts⟩ hM ⟨callB_of n hts (zgood_in k5) rfl rfl rfl (hts _ k2) (hts _ k1) k3 hRm, hts _ v2, hts _ v3⟩ ⟨zpre_blind _ _ _, hrec, hpre⟩ rfl (by rw [List.length_map]; exact hn) hL.1 (by show (List.map (zval Y) _) = _; rw [List.map_append, List.map_reverse]; rfl) (lv_room (by rw [zcat_sum]; exact hcat)) (zfx_dec F hT) ⟨Nat.le_refl _, Nat.le_refl _⟩
  · intro r g' H1 locs1 hq hok hH1 hS1
    have := kk r g' hq p l e s m args below meth c H1 locs1 ls F hH1 hS1 hL (fun v hv => by
      rcases List.mem_append.mp hv with h | h
      · exact hok v (by rcases r with _ | r; cases h; rw [List.mem_singleton.mp h])
      · exact hOS v h)
    rw [List.map_append] at this
    have e1 : (r.toList).map (zval Y) = (r.map (zval Y)).toList := by rcases r with _ | r <;> rfl
    rw [e1] at this
    exact this
theorem zs_callS {host : String} (hT : zat M pc = some (.invokestatic idx, 3)) (hl : zlk (zown M) idx M' n) (hs : Cond.static (zy M') ∈ zTB) (hC : ZC M' d' pre post) (As : List ZV) (S : List ZV) (hst : St = As.reverse ++ S) (hd : d' + 1 ≤ d) (hn : As.length = n) (hcat : (S.map zcat).sum ≤ 8) (hp : pre As g) (kk : ∀ r g', post As g r g' → ZVV Y M d Q (pc + 3) L (r.toList ++ S) g') : ZVV Y M d Q pc L St g := by
  subst hst
  intro p l e s m args below meth c H locs ls F hH hS hL hO
  have hx := F.2.2.1
  have hb := F.2.2.2.1
  have hts := F.2.2.2.2.2.2.2.2.1
  have hOA : ∀ v, v ∈ As → zok Y v := fun v hv => hO v (by first | (rw [List.mem_append, List.mem_reverse]; exact Or.inl hv) | (rw [List.mem_append, List.mem_reverse]; rcases List.mem_cons.mp hv with rfl | hv; exact Or.inr List.mem_cons_self; exact Or.inl hv))
  have hOS : ∀ v, v ∈ S → zok Y v := fun v hv => hO v (by first | (rw [List.mem_append]; exact Or.inr (List.mem_cons_of_mem _ hv)) | (rw [List.mem_append]; exact Or.inr hv))
  obtain ⟨k1, k2, k3, k4, k5⟩ := hl
  have hM := hC l Y As g F.2.1 hOA hp
  have hRm : (zrm d').frames + 1 ≤ (zrm d).frames ∧ 8 + (zn M' + 11) + (zrm d').locals ≤ (zrm d).locals := by
    refine ⟨hd, ?_⟩
    show 8 + (zn M' + 11) + 40 * d' ≤ 40 * d
    omega
  have hpre : ∀ U : State, U.heap = H → s.WarmedH U.vm → zpre Y As g (As.map (zval Y)).toArray U := fun U hU hW => ⟨rfl, by rw [hU]; exact hH, va_K.moved hW.alike F.2.2.2.2.2.2.2.2.2.1, zExt_to F.2.2.2.2.2.2.2.2.2.2 hS hW hU⟩

  refine zrun (Qp := post As g) (rest := S.map (zval Y)) (a := (As.map (zval Y)).toArray) ?_ hS ?_
  · exact va_runS (As := As.map (zval Y)) (n := n) (nL := zn M) ⟨hx, hb, F.2.2.2.2.1, F.2.2.2.2.2.2.2.1, hts⟩ hM ⟨callB_of n hts (zgood_in k5) rfl rfl rfl (hts _ k2) (hts _ k1) k3 hRm, hts _ hs⟩ ⟨zpre_blind _ _ _, hpre⟩ rfl (by rw [List.length_map]; exact hn) hL.1 (by show (List.map (zval Y) _) = _; rw [List.map_append, List.map_reverse]) (lv_room (by rw [zcat_sum]; exact hcat)) (zfx_dec F hT) ⟨Nat.le_refl _, Nat.le_refl _⟩
  · intro r g' H1 locs1 hq hok hH1 hS1
    have := kk r g' hq p l e s m args below meth c H1 locs1 ls F hH1 hS1 hL (fun v hv => by
      rcases List.mem_append.mp hv with h | h
      · exact hok v (by rcases r with _ | r; cases h; rw [List.mem_singleton.mp h])
      · exact hOS v h)
    rw [List.map_append] at this
    have e1 : (r.toList).map (zval Y) = (r.map (zval Y)).toList := by rcases r with _ | r <;> rfl
    rw [e1] at this
    exact this
theorem zs_callSN {host : String} (hT : zat M pc = some (.invokestatic idx, 3)) (hl : zlkN (zown M) idx M' n host) (hs : Cond.static (zy M') ∈ zTB) (hC : ZC M' d' pre post) (As : List ZV) (S : List ZV) (hst : St = As.reverse ++ S) (hd : d' + 1 ≤ d) (hn : As.length = n) (hcat : (S.map zcat).sum ≤ 8) (hp : pre As g) (kk : ∀ r g', post As g r g' → ZVV Y M d Q (pc + 3) L (r.toList ++ S) g') : ZVV Y M d Q pc L St g := by
  subst hst
  intro p l e s m args below meth c H locs ls F hH hS hL hO
  have hx := F.2.2.1
  have hb := F.2.2.2.1
  have hts := F.2.2.2.2.2.2.2.2.1
  have hOA : ∀ v, v ∈ As → zok Y v := fun v hv => hO v (by first | (rw [List.mem_append, List.mem_reverse]; exact Or.inl hv) | (rw [List.mem_append, List.mem_reverse]; rcases List.mem_cons.mp hv with rfl | hv; exact Or.inr List.mem_cons_self; exact Or.inl hv))
  have hOS : ∀ v, v ∈ S → zok Y v := fun v hv => hO v (by first | (rw [List.mem_append]; exact Or.inr (List.mem_cons_of_mem _ hv)) | (rw [List.mem_append]; exact Or.inr hv))
  obtain ⟨k0, k00, k1, k2, k3, k4, k5⟩ := hl
  have hnw : va_Nw (Cond.methodLinkNest (zown M) idx (zy M') host) s := by rw [k0, k00]; exact F.2.2.2.2.2.2.2.2.2.2.2.2.2.2.2.2.2.2 idx _ k1
  have hM := hC l Y As g F.2.1 hOA hp
  have hRm : (zrm d').frames + 1 ≤ (zrm d).frames ∧ 8 + (zn M' + 11) + (zrm d').locals ≤ (zrm d).locals := by
    refine ⟨hd, ?_⟩
    show 8 + (zn M' + 11) + 40 * d' ≤ 40 * d
    omega
  have hpre : ∀ U : State, U.heap = H → s.WarmedH U.vm → zpre Y As g (As.map (zval Y)).toArray U := fun U hU hW => ⟨rfl, by rw [hU]; exact hH, va_K.moved hW.alike F.2.2.2.2.2.2.2.2.2.1, zExt_to F.2.2.2.2.2.2.2.2.2.2 hS hW hU⟩

  refine zrun (Qp := post As g) (rest := S.map (zval Y)) (a := (As.map (zval Y)).toArray) ?_ hS ?_
  · exact va_runSN (As := As.map (zval Y)) (n := n) (nL := zn M) (host := host) ⟨hx, hb, F.2.2.2.2.1, F.2.2.2.2.2.2.2.1, hts⟩ hM ⟨va_cnB n hts (zgood_in k5) rfl rfl rfl hnw (hts _ k2) k3 hRm, hts _ hs, trivial⟩ ⟨zpre_blind _ _ _, hpre⟩ rfl (by rw [List.length_map]; exact hn) hL.1 (by show (List.map (zval Y) _) = _; rw [List.map_append, List.map_reverse]) (lv_room (by rw [zcat_sum]; exact hcat)) (zfx_dec F hT) ⟨Nat.le_refl _, Nat.le_refl _⟩
  · intro r g' H1 locs1 hq hok hH1 hS1
    have := kk r g' hq p l e s m args below meth c H1 locs1 ls F hH1 hS1 hL (fun v hv => by
      rcases List.mem_append.mp hv with h | h
      · exact hok v (by rcases r with _ | r; cases h; rw [List.mem_singleton.mp h])
      · exact hOS v h)
    rw [List.map_append] at this
    have e1 : (r.toList).map (zval Y) = (r.map (zval Y)).toList := by rcases r with _ | r <;> rfl
    rw [e1] at this
    exact this
end ZK
end
