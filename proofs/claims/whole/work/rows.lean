section
-- ===== PART A: goes FIRST, ahead of the names: the tables' words, and 'selects' of the private methods out of them =====
/-- a private method of a class that the tables say can be made, by its rows of tables_1 -/
def lw_okq (q : MethodName × Nat) : Prop := (q.1.cls ≠ "java/lang/invoke/MethodHandle" ∧ q.1.cls ≠ "java/lang/invoke/VarHandle") ∧ Cond.instantiable q.1.cls q.2 ∈ tables_1 ∧ Cond.privateMethod q.1 ∈ tables_1 ∧ Cond.instanceMethod q.1 ∈ tables_1
theorem lw_p0 : lw_okq (⟨"DuskGates", "found", "(I)I"⟩, 13) := ⟨⟨by decide +kernel, by decide +kernel⟩, List.mem_of_getElem? (i := 22) (by decide +kernel), List.mem_of_getElem? (i := 378) (by decide +kernel), List.mem_of_getElem? (i := 379) (by decide +kernel)⟩
theorem lw_p1 : lw_okq (⟨"DuskGates", "fine", "(I)I"⟩, 13) := ⟨⟨by decide +kernel, by decide +kernel⟩, List.mem_of_getElem? (i := 22) (by decide +kernel), List.mem_of_getElem? (i := 387) (by decide +kernel), List.mem_of_getElem? (i := 388) (by decide +kernel)⟩
theorem lw_p2 : lw_okq (⟨"DuskGates", "flawOf", "(III)I"⟩, 13) := ⟨⟨by decide +kernel, by decide +kernel⟩, List.mem_of_getElem? (i := 22) (by decide +kernel), List.mem_of_getElem? (i := 395) (by decide +kernel), List.mem_of_getElem? (i := 396) (by decide +kernel)⟩
theorem lw_p3 : lw_okq (⟨"DuskGates$Reader", "nextToken", "()V"⟩, 9) := ⟨⟨by decide +kernel, by decide +kernel⟩, List.mem_of_getElem? (i := 98) (by decide +kernel), List.mem_of_getElem? (i := 480) (by decide +kernel), List.mem_of_getElem? (i := 481) (by decide +kernel)⟩
theorem lw_p4 : lw_okq (⟨"DuskGates$Reader", "readName", "()V"⟩, 9) := ⟨⟨by decide +kernel, by decide +kernel⟩, List.mem_of_getElem? (i := 98) (by decide +kernel), List.mem_of_getElem? (i := 487) (by decide +kernel), List.mem_of_getElem? (i := 488) (by decide +kernel)⟩
theorem lw_p5 : lw_okq (⟨"DuskGates$Reader", "readNumber", "()V"⟩, 9) := ⟨⟨by decide +kernel, by decide +kernel⟩, List.mem_of_getElem? (i := 98) (by decide +kernel), List.mem_of_getElem? (i := 494) (by decide +kernel), List.mem_of_getElem? (i := 495) (by decide +kernel)⟩
theorem lw_p6 : lw_okq (⟨"DuskGates$Reader", "readSection", "()Z"⟩, 9) := ⟨⟨by decide +kernel, by decide +kernel⟩, List.mem_of_getElem? (i := 98) (by decide +kernel), List.mem_of_getElem? (i := 498) (by decide +kernel), List.mem_of_getElem? (i := 499) (by decide +kernel)⟩
theorem lw_p7 : lw_okq (⟨"DuskGates$Reader", "spells", "(Ljava/lang/String;)Z"⟩, 9) := ⟨⟨by decide +kernel, by decide +kernel⟩, List.mem_of_getElem? (i := 98) (by decide +kernel), List.mem_of_getElem? (i := 503) (by decide +kernel), List.mem_of_getElem? (i := 504) (by decide +kernel)⟩
theorem lw_p8 : lw_okq (⟨"DuskGates$Reader", "blame", "(I)Z"⟩, 9) := ⟨⟨by decide +kernel, by decide +kernel⟩, List.mem_of_getElem? (i := 98) (by decide +kernel), List.mem_of_getElem? (i := 555) (by decide +kernel), List.mem_of_getElem? (i := 556) (by decide +kernel)⟩
theorem lw_p9 : lw_okq (⟨"DuskGates$Reader", "isNumberUpTo", "(I)Z"⟩, 9) := ⟨⟨by decide +kernel, by decide +kernel⟩, List.mem_of_getElem? (i := 98) (by decide +kernel), List.mem_of_getElem? (i := 559) (by decide +kernel), List.mem_of_getElem? (i := 560) (by decide +kernel)⟩
theorem lw_p10 : lw_okq (⟨"DuskGates$Reader", "readLaw", "(I)Z"⟩, 9) := ⟨⟨by decide +kernel, by decide +kernel⟩, List.mem_of_getElem? (i := 98) (by decide +kernel), List.mem_of_getElem? (i := 563) (by decide +kernel), List.mem_of_getElem? (i := 564) (by decide +kernel)⟩
theorem lw_p11 : lw_okq (⟨"DuskGates$Reader", "lawWord", "()I"⟩, 9) := ⟨⟨by decide +kernel, by decide +kernel⟩, List.mem_of_getElem? (i := 98) (by decide +kernel), List.mem_of_getElem? (i := 567) (by decide +kernel), List.mem_of_getElem? (i := 568) (by decide +kernel)⟩
theorem lw_p12 : lw_okq (⟨"DuskGates", "isCart", "(I)Z"⟩, 13) := ⟨⟨by decide +kernel, by decide +kernel⟩, List.mem_of_getElem? (i := 22) (by decide +kernel), List.mem_of_getElem? (i := 632) (by decide +kernel), List.mem_of_getElem? (i := 633) (by decide +kernel)⟩
theorem lw_p13 : lw_okq (⟨"DuskGates$Carts", "wholeToll", "(II)I"⟩, 10) := ⟨⟨by decide +kernel, by decide +kernel⟩, List.mem_of_getElem? (i := 135) (by decide +kernel), List.mem_of_getElem? (i := 641) (by decide +kernel), List.mem_of_getElem? (i := 642) (by decide +kernel)⟩
theorem lw_p14 : lw_okq (⟨"DuskGates$Carts", "shiftOn", "(I)V"⟩, 10) := ⟨⟨by decide +kernel, by decide +kernel⟩, List.mem_of_getElem? (i := 135) (by decide +kernel), List.mem_of_getElem? (i := 662) (by decide +kernel), List.mem_of_getElem? (i := 663) (by decide +kernel)⟩
theorem lw_p15 : lw_okq (⟨"DuskGates$Carts", "afterPassing", "(II)I"⟩, 10) := ⟨⟨by decide +kernel, by decide +kernel⟩, List.mem_of_getElem? (i := 135) (by decide +kernel), List.mem_of_getElem? (i := 678) (by decide +kernel), List.mem_of_getElem? (i := 679) (by decide +kernel)⟩
def lw_privs_1 : List (MethodName × Nat) := [(⟨"DuskGates", "found", "(I)I"⟩, 13), (⟨"DuskGates", "fine", "(I)I"⟩, 13), (⟨"DuskGates", "flawOf", "(III)I"⟩, 13), (⟨"DuskGates$Reader", "nextToken", "()V"⟩, 9), (⟨"DuskGates$Reader", "readName", "()V"⟩, 9), (⟨"DuskGates$Reader", "readNumber", "()V"⟩, 9), (⟨"DuskGates$Reader", "readSection", "()Z"⟩, 9), (⟨"DuskGates$Reader", "spells", "(Ljava/lang/String;)Z"⟩, 9), (⟨"DuskGates$Reader", "blame", "(I)Z"⟩, 9), (⟨"DuskGates$Reader", "isNumberUpTo", "(I)Z"⟩, 9), (⟨"DuskGates$Reader", "readLaw", "(I)Z"⟩, 9), (⟨"DuskGates$Reader", "lawWord", "()I"⟩, 9), (⟨"DuskGates", "isCart", "(I)Z"⟩, 13), (⟨"DuskGates$Carts", "wholeToll", "(II)I"⟩, 10), (⟨"DuskGates$Carts", "shiftOn", "(I)V"⟩, 10), (⟨"DuskGates$Carts", "afterPassing", "(II)I"⟩, 10)]
theorem lw_r1 : ∀ q ∈ lw_privs_1, lw_okq q := List.forall_mem_cons.mpr ⟨lw_p0, List.forall_mem_cons.mpr ⟨lw_p1, List.forall_mem_cons.mpr ⟨lw_p2, List.forall_mem_cons.mpr ⟨lw_p3, List.forall_mem_cons.mpr ⟨lw_p4, List.forall_mem_cons.mpr ⟨lw_p5, List.forall_mem_cons.mpr ⟨lw_p6, List.forall_mem_cons.mpr ⟨lw_p7, List.forall_mem_cons.mpr ⟨lw_p8, List.forall_mem_cons.mpr ⟨lw_p9, List.forall_mem_cons.mpr ⟨lw_p10, List.forall_mem_cons.mpr ⟨lw_p11, List.forall_mem_cons.mpr ⟨lw_p12, List.forall_mem_cons.mpr ⟨lw_p13, List.forall_mem_cons.mpr ⟨lw_p14, List.forall_mem_cons.mpr ⟨lw_p15, fun _ h => absurd h List.not_mem_nil⟩⟩⟩⟩⟩⟩⟩⟩⟩⟩⟩⟩⟩⟩⟩⟩
theorem lw_p16 : lw_okq (⟨"DuskGates$Papers", "areFarEnough", "(II)Z"⟩, 10) := ⟨⟨by decide +kernel, by decide +kernel⟩, List.mem_of_getElem? (i := 174) (by decide +kernel), List.mem_of_getElem? (i := 759) (by decide +kernel), List.mem_of_getElem? (i := 760) (by decide +kernel)⟩
theorem lw_p17 : lw_okq (⟨"DuskGates", "isPass", "(I)Z"⟩, 13) := ⟨⟨by decide +kernel, by decide +kernel⟩, List.mem_of_getElem? (i := 22) (by decide +kernel), List.mem_of_getElem? (i := 770) (by decide +kernel), List.mem_of_getElem? (i := 771) (by decide +kernel)⟩
theorem lw_p18 : lw_okq (⟨"DuskGates$Papers", "isForged", "(II)Z"⟩, 10) := ⟨⟨by decide +kernel, by decide +kernel⟩, List.mem_of_getElem? (i := 174) (by decide +kernel), List.mem_of_getElem? (i := 779) (by decide +kernel), List.mem_of_getElem? (i := 780) (by decide +kernel)⟩
theorem lw_p19 : lw_okq (⟨"DuskGates$Papers", "wasSick", "(II)Z"⟩, 10) := ⟨⟨by decide +kernel, by decide +kernel⟩, List.mem_of_getElem? (i := 174) (by decide +kernel), List.mem_of_getElem? (i := 783) (by decide +kernel), List.mem_of_getElem? (i := 784) (by decide +kernel)⟩
theorem lw_p20 : lw_okq (⟨"DuskGates$Papers", "isSealOfOtherHand", "(I)Z"⟩, 10) := ⟨⟨by decide +kernel, by decide +kernel⟩, List.mem_of_getElem? (i := 174) (by decide +kernel), List.mem_of_getElem? (i := 788) (by decide +kernel), List.mem_of_getElem? (i := 789) (by decide +kernel)⟩
theorem lw_p21 : lw_okq (⟨"DuskGates$Queues", "waitedAt", "(III)I"⟩, 7) := ⟨⟨by decide +kernel, by decide +kernel⟩, List.mem_of_getElem? (i := 231) (by decide +kernel), List.mem_of_getElem? (i := 822) (by decide +kernel), List.mem_of_getElem? (i := 823) (by decide +kernel)⟩
theorem lw_p22 : lw_okq (⟨"DuskGates$Queues", "firstFree", "(I)I"⟩, 7) := ⟨⟨by decide +kernel, by decide +kernel⟩, List.mem_of_getElem? (i := 231) (by decide +kernel), List.mem_of_getElem? (i := 826) (by decide +kernel), List.mem_of_getElem? (i := 827) (by decide +kernel)⟩
theorem lw_p23 : lw_okq (⟨"DuskGates$Queues", "tryWay", "(IIII)V"⟩, 7) := ⟨⟨by decide +kernel, by decide +kernel⟩, List.mem_of_getElem? (i := 231) (by decide +kernel), List.mem_of_getElem? (i := 831) (by decide +kernel), List.mem_of_getElem? (i := 832) (by decide +kernel)⟩
theorem lw_p24 : lw_okq (⟨"DuskGates$Fewest", "doCover", "(III)Z"⟩, 3) := ⟨⟨by decide +kernel, by decide +kernel⟩, List.mem_of_getElem? (i := 308) (by decide +kernel), List.mem_of_getElem? (i := 875) (by decide +kernel), List.mem_of_getElem? (i := 876) (by decide +kernel)⟩
theorem lw_p25 : lw_okq (⟨"DuskGates$Asks", "tollSize", "(I)I"⟩, 3) := ⟨⟨by decide +kernel, by decide +kernel⟩, List.mem_of_getElem? (i := 213) (by decide +kernel), List.mem_of_getElem? (i := 938) (by decide +kernel), List.mem_of_getElem? (i := 939) (by decide +kernel)⟩
theorem lw_p26 : lw_okq (⟨"DuskGates$Asks", "leave", "(I)V"⟩, 3) := ⟨⟨by decide +kernel, by decide +kernel⟩, List.mem_of_getElem? (i := 213) (by decide +kernel), List.mem_of_getElem? (i := 942) (by decide +kernel), List.mem_of_getElem? (i := 943) (by decide +kernel)⟩
theorem lw_p27 : lw_okq (⟨"DuskGates$Asks", "lentSize", "(I)I"⟩, 3) := ⟨⟨by decide +kernel, by decide +kernel⟩, List.mem_of_getElem? (i := 213) (by decide +kernel), List.mem_of_getElem? (i := 946) (by decide +kernel), List.mem_of_getElem? (i := 947) (by decide +kernel)⟩
theorem lw_p28 : lw_okq (⟨"DuskGates$Asks", "healthSize", "(IZ)I"⟩, 3) := ⟨⟨by decide +kernel, by decide +kernel⟩, List.mem_of_getElem? (i := 213) (by decide +kernel), List.mem_of_getElem? (i := 951) (by decide +kernel), List.mem_of_getElem? (i := 952) (by decide +kernel)⟩
theorem lw_p29 : lw_okq (⟨"DuskGates$Asks", "forgedMark", "(I)I"⟩, 3) := ⟨⟨by decide +kernel, by decide +kernel⟩, List.mem_of_getElem? (i := 213) (by decide +kernel), List.mem_of_getElem? (i := 955) (by decide +kernel), List.mem_of_getElem? (i := 956) (by decide +kernel)⟩
theorem lw_p30 : lw_okq (⟨"DuskGates$Asks", "healthMark", "(I)I"⟩, 3) := ⟨⟨by decide +kernel, by decide +kernel⟩, List.mem_of_getElem? (i := 213) (by decide +kernel), List.mem_of_getElem? (i := 959) (by decide +kernel), List.mem_of_getElem? (i := 960) (by decide +kernel)⟩
theorem lw_p31 : lw_okq (⟨"DuskGates$Asks", "lentMark", "(I)I"⟩, 3) := ⟨⟨by decide +kernel, by decide +kernel⟩, List.mem_of_getElem? (i := 213) (by decide +kernel), List.mem_of_getElem? (i := 963) (by decide +kernel), List.mem_of_getElem? (i := 964) (by decide +kernel)⟩
def lw_privs_2 : List (MethodName × Nat) := [(⟨"DuskGates$Papers", "areFarEnough", "(II)Z"⟩, 10), (⟨"DuskGates", "isPass", "(I)Z"⟩, 13), (⟨"DuskGates$Papers", "isForged", "(II)Z"⟩, 10), (⟨"DuskGates$Papers", "wasSick", "(II)Z"⟩, 10), (⟨"DuskGates$Papers", "isSealOfOtherHand", "(I)Z"⟩, 10), (⟨"DuskGates$Queues", "waitedAt", "(III)I"⟩, 7), (⟨"DuskGates$Queues", "firstFree", "(I)I"⟩, 7), (⟨"DuskGates$Queues", "tryWay", "(IIII)V"⟩, 7), (⟨"DuskGates$Fewest", "doCover", "(III)Z"⟩, 3), (⟨"DuskGates$Asks", "tollSize", "(I)I"⟩, 3), (⟨"DuskGates$Asks", "leave", "(I)V"⟩, 3), (⟨"DuskGates$Asks", "lentSize", "(I)I"⟩, 3), (⟨"DuskGates$Asks", "healthSize", "(IZ)I"⟩, 3), (⟨"DuskGates$Asks", "forgedMark", "(I)I"⟩, 3), (⟨"DuskGates$Asks", "healthMark", "(I)I"⟩, 3), (⟨"DuskGates$Asks", "lentMark", "(I)I"⟩, 3)]
theorem lw_r2 : ∀ q ∈ lw_privs_2, lw_okq q := List.forall_mem_cons.mpr ⟨lw_p16, List.forall_mem_cons.mpr ⟨lw_p17, List.forall_mem_cons.mpr ⟨lw_p18, List.forall_mem_cons.mpr ⟨lw_p19, List.forall_mem_cons.mpr ⟨lw_p20, List.forall_mem_cons.mpr ⟨lw_p21, List.forall_mem_cons.mpr ⟨lw_p22, List.forall_mem_cons.mpr ⟨lw_p23, List.forall_mem_cons.mpr ⟨lw_p24, List.forall_mem_cons.mpr ⟨lw_p25, List.forall_mem_cons.mpr ⟨lw_p26, List.forall_mem_cons.mpr ⟨lw_p27, List.forall_mem_cons.mpr ⟨lw_p28, List.forall_mem_cons.mpr ⟨lw_p29, List.forall_mem_cons.mpr ⟨lw_p30, List.forall_mem_cons.mpr ⟨lw_p31, fun _ h => absurd h List.not_mem_nil⟩⟩⟩⟩⟩⟩⟩⟩⟩⟩⟩⟩⟩⟩⟩⟩
theorem lw_p32 : lw_okq (⟨"DuskGates$Asks", "forgedSize", "(I)I"⟩, 3) := ⟨⟨by decide +kernel, by decide +kernel⟩, List.mem_of_getElem? (i := 213) (by decide +kernel), List.mem_of_getElem? (i := 967) (by decide +kernel), List.mem_of_getElem? (i := 968) (by decide +kernel)⟩
theorem lw_p33 : lw_okq (⟨"DuskGates$Asks", "nightSize", "(I)I"⟩, 3) := ⟨⟨by decide +kernel, by decide +kernel⟩, List.mem_of_getElem? (i := 213) (by decide +kernel), List.mem_of_getElem? (i := 971) (by decide +kernel), List.mem_of_getElem? (i := 972) (by decide +kernel)⟩
theorem lw_p34 : lw_okq (⟨"DuskGates$Asks", "nightMark", "(I)I"⟩, 3) := ⟨⟨by decide +kernel, by decide +kernel⟩, List.mem_of_getElem? (i := 213) (by decide +kernel), List.mem_of_getElem? (i := 979) (by decide +kernel), List.mem_of_getElem? (i := 980) (by decide +kernel)⟩
theorem lw_p35 : lw_okq (⟨"DuskGatesModel", "finding", "(I)I"⟩, 61) := ⟨⟨by decide +kernel, by decide +kernel⟩, List.mem_of_getElem? (i := 1006) (by decide +kernel), List.mem_of_getElem? (i := 1210) (by decide +kernel), List.mem_of_getElem? (i := 1211) (by decide +kernel)⟩
theorem lw_p36 : lw_okq (⟨"DuskGatesModel", "step", "()V"⟩, 61) := ⟨⟨by decide +kernel, by decide +kernel⟩, List.mem_of_getElem? (i := 1006) (by decide +kernel), List.mem_of_getElem? (i := 1263) (by decide +kernel), List.mem_of_getElem? (i := 1264) (by decide +kernel)⟩
theorem lw_p37 : lw_okq (⟨"DuskGatesModel", "byteAt", "(I)I"⟩, 61) := ⟨⟨by decide +kernel, by decide +kernel⟩, List.mem_of_getElem? (i := 1006) (by decide +kernel), List.mem_of_getElem? (i := 1267) (by decide +kernel), List.mem_of_getElem? (i := 1268) (by decide +kernel)⟩
theorem lw_p38 : lw_okq (⟨"DuskGatesModel", "word", "()J"⟩, 61) := ⟨⟨by decide +kernel, by decide +kernel⟩, List.mem_of_getElem? (i := 1006) (by decide +kernel), List.mem_of_getElem? (i := 1277) (by decide +kernel), List.mem_of_getElem? (i := 1278) (by decide +kernel)⟩
theorem lw_p39 : lw_okq (⟨"DuskGatesModel", "need", "(Z)V"⟩, 61) := ⟨⟨by decide +kernel, by decide +kernel⟩, List.mem_of_getElem? (i := 1006) (by decide +kernel), List.mem_of_getElem? (i := 1282) (by decide +kernel), List.mem_of_getElem? (i := 1283) (by decide +kernel)⟩
theorem lw_p40 : lw_okq (⟨"DuskGatesModel", "bad", "(I)V"⟩, 61) := ⟨⟨by decide +kernel, by decide +kernel⟩, List.mem_of_getElem? (i := 1006) (by decide +kernel), List.mem_of_getElem? (i := 1286) (by decide +kernel), List.mem_of_getElem? (i := 1287) (by decide +kernel)⟩
theorem lw_p41 : lw_okq (⟨"DuskGatesModel", "numberTo", "(I)I"⟩, 61) := ⟨⟨by decide +kernel, by decide +kernel⟩, List.mem_of_getElem? (i := 1006) (by decide +kernel), List.mem_of_getElem? (i := 1290) (by decide +kernel), List.mem_of_getElem? (i := 1291) (by decide +kernel)⟩
theorem lw_p42 : lw_okq (⟨"DuskGatesModel", "readLaw", "(I)V"⟩, 61) := ⟨⟨by decide +kernel, by decide +kernel⟩, List.mem_of_getElem? (i := 1006) (by decide +kernel), List.mem_of_getElem? (i := 1294) (by decide +kernel), List.mem_of_getElem? (i := 1295) (by decide +kernel)⟩
theorem lw_p43 : lw_okq (⟨"DuskGatesModel", "lawOfWord", "()I"⟩, 61) := ⟨⟨by decide +kernel, by decide +kernel⟩, List.mem_of_getElem? (i := 1006) (by decide +kernel), List.mem_of_getElem? (i := 1298) (by decide +kernel), List.mem_of_getElem? (i := 1299) (by decide +kernel)⟩
theorem lw_p44 : lw_okq (⟨"DuskGatesModel", "numberFor", "(III)I"⟩, 61) := ⟨⟨by decide +kernel, by decide +kernel⟩, List.mem_of_getElem? (i := 1006) (by decide +kernel), List.mem_of_getElem? (i := 1321) (by decide +kernel), List.mem_of_getElem? (i := 1322) (by decide +kernel)⟩
theorem lw_p45 : lw_okq (⟨"DuskGatesModel", "lawFor", "(IIII)I"⟩, 61) := ⟨⟨by decide +kernel, by decide +kernel⟩, List.mem_of_getElem? (i := 1006) (by decide +kernel), List.mem_of_getElem? (i := 1325) (by decide +kernel), List.mem_of_getElem? (i := 1326) (by decide +kernel)⟩
theorem lw_p46 : lw_okq (⟨"DuskGatesModel", "isGood", "(II)Z"⟩, 61) := ⟨⟨by decide +kernel, by decide +kernel⟩, List.mem_of_getElem? (i := 1006) (by decide +kernel), List.mem_of_getElem? (i := 1335) (by decide +kernel), List.mem_of_getElem? (i := 1336) (by decide +kernel)⟩
theorem lw_p47 : lw_okq (⟨"DuskGatesModel", "isBanned", "(II)Z"⟩, 61) := ⟨⟨by decide +kernel, by decide +kernel⟩, List.mem_of_getElem? (i := 1006) (by decide +kernel), List.mem_of_getElem? (i := 1341) (by decide +kernel), List.mem_of_getElem? (i := 1342) (by decide +kernel)⟩
def lw_privs_3 : List (MethodName × Nat) := [(⟨"DuskGates$Asks", "forgedSize", "(I)I"⟩, 3), (⟨"DuskGates$Asks", "nightSize", "(I)I"⟩, 3), (⟨"DuskGates$Asks", "nightMark", "(I)I"⟩, 3), (⟨"DuskGatesModel", "finding", "(I)I"⟩, 61), (⟨"DuskGatesModel", "step", "()V"⟩, 61), (⟨"DuskGatesModel", "byteAt", "(I)I"⟩, 61), (⟨"DuskGatesModel", "word", "()J"⟩, 61), (⟨"DuskGatesModel", "need", "(Z)V"⟩, 61), (⟨"DuskGatesModel", "bad", "(I)V"⟩, 61), (⟨"DuskGatesModel", "numberTo", "(I)I"⟩, 61), (⟨"DuskGatesModel", "readLaw", "(I)V"⟩, 61), (⟨"DuskGatesModel", "lawOfWord", "()I"⟩, 61), (⟨"DuskGatesModel", "numberFor", "(III)I"⟩, 61), (⟨"DuskGatesModel", "lawFor", "(IIII)I"⟩, 61), (⟨"DuskGatesModel", "isGood", "(II)Z"⟩, 61), (⟨"DuskGatesModel", "isBanned", "(II)Z"⟩, 61)]
theorem lw_r3 : ∀ q ∈ lw_privs_3, lw_okq q := List.forall_mem_cons.mpr ⟨lw_p32, List.forall_mem_cons.mpr ⟨lw_p33, List.forall_mem_cons.mpr ⟨lw_p34, List.forall_mem_cons.mpr ⟨lw_p35, List.forall_mem_cons.mpr ⟨lw_p36, List.forall_mem_cons.mpr ⟨lw_p37, List.forall_mem_cons.mpr ⟨lw_p38, List.forall_mem_cons.mpr ⟨lw_p39, List.forall_mem_cons.mpr ⟨lw_p40, List.forall_mem_cons.mpr ⟨lw_p41, List.forall_mem_cons.mpr ⟨lw_p42, List.forall_mem_cons.mpr ⟨lw_p43, List.forall_mem_cons.mpr ⟨lw_p44, List.forall_mem_cons.mpr ⟨lw_p45, List.forall_mem_cons.mpr ⟨lw_p46, List.forall_mem_cons.mpr ⟨lw_p47, fun _ h => absurd h List.not_mem_nil⟩⟩⟩⟩⟩⟩⟩⟩⟩⟩⟩⟩⟩⟩⟩⟩
theorem lw_p48 : lw_okq (⟨"DuskGatesModel", "lookItems", "(III)I"⟩, 61) := ⟨⟨by decide +kernel, by decide +kernel⟩, List.mem_of_getElem? (i := 1006) (by decide +kernel), List.mem_of_getElem? (i := 1349) (by decide +kernel), List.mem_of_getElem? (i := 1350) (by decide +kernel)⟩
theorem lw_p49 : lw_okq (⟨"DuskGatesModel", "isCart", "(I)Z"⟩, 61) := ⟨⟨by decide +kernel, by decide +kernel⟩, List.mem_of_getElem? (i := 1006) (by decide +kernel), List.mem_of_getElem? (i := 1359) (by decide +kernel), List.mem_of_getElem? (i := 1360) (by decide +kernel)⟩
theorem lw_p50 : lw_okq (⟨"DuskGatesModel", "owedBy", "(III)I"⟩, 61) := ⟨⟨by decide +kernel, by decide +kernel⟩, List.mem_of_getElem? (i := 1006) (by decide +kernel), List.mem_of_getElem? (i := 1363) (by decide +kernel), List.mem_of_getElem? (i := 1364) (by decide +kernel)⟩
theorem lw_p51 : lw_okq (⟨"DuskGatesModel", "goThrough", "()V"⟩, 61) := ⟨⟨by decide +kernel, by decide +kernel⟩, List.mem_of_getElem? (i := 1006) (by decide +kernel), List.mem_of_getElem? (i := 1376) (by decide +kernel), List.mem_of_getElem? (i := 1377) (by decide +kernel)⟩
theorem lw_p52 : lw_okq (⟨"DuskGatesModel", "isOpen", "(II)Z"⟩, 61) := ⟨⟨by decide +kernel, by decide +kernel⟩, List.mem_of_getElem? (i := 1006) (by decide +kernel), List.mem_of_getElem? (i := 1380) (by decide +kernel), List.mem_of_getElem? (i := 1381) (by decide +kernel)⟩
theorem lw_p53 : lw_okq (⟨"DuskGatesModel", "on", "(II)I"⟩, 61) := ⟨⟨by decide +kernel, by decide +kernel⟩, List.mem_of_getElem? (i := 1006) (by decide +kernel), List.mem_of_getElem? (i := 1414) (by decide +kernel), List.mem_of_getElem? (i := 1415) (by decide +kernel)⟩
theorem lw_p54 : lw_okq (⟨"DuskGatesModel", "isPass", "(I)Z"⟩, 61) := ⟨⟨by decide +kernel, by decide +kernel⟩, List.mem_of_getElem? (i := 1006) (by decide +kernel), List.mem_of_getElem? (i := 1422) (by decide +kernel), List.mem_of_getElem? (i := 1423) (by decide +kernel)⟩
theorem lw_p55 : lw_okq (⟨"DuskGatesModel", "isForged", "(II)Z"⟩, 61) := ⟨⟨by decide +kernel, by decide +kernel⟩, List.mem_of_getElem? (i := 1006) (by decide +kernel), List.mem_of_getElem? (i := 1426) (by decide +kernel), List.mem_of_getElem? (i := 1427) (by decide +kernel)⟩
theorem lw_p56 : lw_okq (⟨"DuskGatesModel", "waitedAt", "(IIIII)I"⟩, 61) := ⟨⟨by decide +kernel, by decide +kernel⟩, List.mem_of_getElem? (i := 1006) (by decide +kernel), List.mem_of_getElem? (i := 1441) (by decide +kernel), List.mem_of_getElem? (i := 1442) (by decide +kernel)⟩
theorem lw_p57 : lw_okq (⟨"DuskGatesModel", "whoMay", "(I)I"⟩, 61) := ⟨⟨by decide +kernel, by decide +kernel⟩, List.mem_of_getElem? (i := 1006) (by decide +kernel), List.mem_of_getElem? (i := 1457) (by decide +kernel), List.mem_of_getElem? (i := 1458) (by decide +kernel)⟩
theorem lw_p58 : lw_okq (⟨"DuskGatesModel", "breachesNow", "()I"⟩, 61) := ⟨⟨by decide +kernel, by decide +kernel⟩, List.mem_of_getElem? (i := 1006) (by decide +kernel), List.mem_of_getElem? (i := 1479) (by decide +kernel), List.mem_of_getElem? (i := 1480) (by decide +kernel)⟩
theorem lw_p59 : lw_okq (⟨"DuskGatesModel", "kindOf", "(I)I"⟩, 61) := ⟨⟨by decide +kernel, by decide +kernel⟩, List.mem_of_getElem? (i := 1006) (by decide +kernel), List.mem_of_getElem? (i := 1497) (by decide +kernel), List.mem_of_getElem? (i := 1498) (by decide +kernel)⟩
theorem lw_p60 : lw_okq (⟨"DuskGatesModel", "sizeOf", "(II)I"⟩, 61) := ⟨⟨by decide +kernel, by decide +kernel⟩, List.mem_of_getElem? (i := 1006) (by decide +kernel), List.mem_of_getElem? (i := 1512) (by decide +kernel), List.mem_of_getElem? (i := 1513) (by decide +kernel)⟩
theorem lw_p61 : lw_okq (⟨"DuskGatesModel", "nightSize", "(I)I"⟩, 61) := ⟨⟨by decide +kernel, by decide +kernel⟩, List.mem_of_getElem? (i := 1006) (by decide +kernel), List.mem_of_getElem? (i := 1516) (by decide +kernel), List.mem_of_getElem? (i := 1517) (by decide +kernel)⟩
theorem lw_p62 : lw_okq (⟨"DuskGatesModel", "began", "(I)V"⟩, 61) := ⟨⟨by decide +kernel, by decide +kernel⟩, List.mem_of_getElem? (i := 1006) (by decide +kernel), List.mem_of_getElem? (i := 1520) (by decide +kernel), List.mem_of_getElem? (i := 1521) (by decide +kernel)⟩
theorem lw_p63 : lw_okq (⟨"DuskGatesModel", "markOf", "(II)I"⟩, 61) := ⟨⟨by decide +kernel, by decide +kernel⟩, List.mem_of_getElem? (i := 1006) (by decide +kernel), List.mem_of_getElem? (i := 1524) (by decide +kernel), List.mem_of_getElem? (i := 1525) (by decide +kernel)⟩
def lw_privs_4 : List (MethodName × Nat) := [(⟨"DuskGatesModel", "lookItems", "(III)I"⟩, 61), (⟨"DuskGatesModel", "isCart", "(I)Z"⟩, 61), (⟨"DuskGatesModel", "owedBy", "(III)I"⟩, 61), (⟨"DuskGatesModel", "goThrough", "()V"⟩, 61), (⟨"DuskGatesModel", "isOpen", "(II)Z"⟩, 61), (⟨"DuskGatesModel", "on", "(II)I"⟩, 61), (⟨"DuskGatesModel", "isPass", "(I)Z"⟩, 61), (⟨"DuskGatesModel", "isForged", "(II)Z"⟩, 61), (⟨"DuskGatesModel", "waitedAt", "(IIIII)I"⟩, 61), (⟨"DuskGatesModel", "whoMay", "(I)I"⟩, 61), (⟨"DuskGatesModel", "breachesNow", "()I"⟩, 61), (⟨"DuskGatesModel", "kindOf", "(I)I"⟩, 61), (⟨"DuskGatesModel", "sizeOf", "(II)I"⟩, 61), (⟨"DuskGatesModel", "nightSize", "(I)I"⟩, 61), (⟨"DuskGatesModel", "began", "(I)V"⟩, 61), (⟨"DuskGatesModel", "markOf", "(II)I"⟩, 61)]
theorem lw_r4 : ∀ q ∈ lw_privs_4, lw_okq q := List.forall_mem_cons.mpr ⟨lw_p48, List.forall_mem_cons.mpr ⟨lw_p49, List.forall_mem_cons.mpr ⟨lw_p50, List.forall_mem_cons.mpr ⟨lw_p51, List.forall_mem_cons.mpr ⟨lw_p52, List.forall_mem_cons.mpr ⟨lw_p53, List.forall_mem_cons.mpr ⟨lw_p54, List.forall_mem_cons.mpr ⟨lw_p55, List.forall_mem_cons.mpr ⟨lw_p56, List.forall_mem_cons.mpr ⟨lw_p57, List.forall_mem_cons.mpr ⟨lw_p58, List.forall_mem_cons.mpr ⟨lw_p59, List.forall_mem_cons.mpr ⟨lw_p60, List.forall_mem_cons.mpr ⟨lw_p61, List.forall_mem_cons.mpr ⟨lw_p62, List.forall_mem_cons.mpr ⟨lw_p63, fun _ h => absurd h List.not_mem_nil⟩⟩⟩⟩⟩⟩⟩⟩⟩⟩⟩⟩⟩⟩⟩⟩
def lw_privs : List (MethodName × Nat) := lw_privs_1 ++ (lw_privs_2 ++ (lw_privs_3 ++ (lw_privs_4)))
def lw_tbl : List Cond := k2_sels lw_privs ++ tables_1
theorem lw_privs_ok : ∀ q ∈ lw_privs, lw_okq q := by
  show ∀ q ∈ lw_privs_1 ++ (lw_privs_2 ++ (lw_privs_3 ++ (lw_privs_4))), lw_okq q
  exact List.forall_mem_append.mpr ⟨lw_r1, List.forall_mem_append.mpr ⟨lw_r2, List.forall_mem_append.mpr ⟨lw_r3, lw_r4⟩⟩⟩
-- ===== end of PART A; then your names; then what follows =====
end
section
def RX0 : String := "DuskGates$Asks"
def TX0 : u_T := fun k => match k with
  | 0 => ("DuskGates$Asks", "papers", "LDuskGates$Papers;", true)
  | 1 => ("DuskGates$Asks", "bodies", "[I", true)
  | _ => ("DuskGates$Asks", "left", "I", false)
def tyX0 : Nat → FieldType := fun k => match k with
  | 0 => .object "DuskGates$Papers"
  | 1 => .array .int
  | _ => .int
theorem nmX0 : ∀ a, a < 3 → ∀ b, b < 3 → a ≠ b → (TX0 a).2.1 ≠ (TX0 b).2.1 := by decide +kernel
theorem tyX0_ok : ∀ k, k < 3 → parseFieldDescriptor (TX0 k).2.2.1 = some (tyX0 k) := by decide +kernel
abbrev cX0_init : ByteArray := prog_2_method_1_code
def yX0_init : MethodName := ⟨RX0, "<init>", "(LDuskGates$Papers;)V"⟩
abbrev cX0_sizeOf : ByteArray := prog_2_method_2_code
def yX0_sizeOf : MethodName := ⟨RX0, "sizeOf", "(II)I"⟩
abbrev cX0_markOf : ByteArray := prog_2_method_3_code
def yX0_markOf : MethodName := ⟨RX0, "markOf", "(II)I"⟩
abbrev cX0_lentSize : ByteArray := prog_2_method_4_code
def yX0_lentSize : MethodName := ⟨RX0, "lentSize", "(I)I"⟩
abbrev cX0_tollSize : ByteArray := prog_2_method_5_code
def yX0_tollSize : MethodName := ⟨RX0, "tollSize", "(I)I"⟩
abbrev cX0_healthSize : ByteArray := prog_2_method_6_code
def yX0_healthSize : MethodName := ⟨RX0, "healthSize", "(IZ)I"⟩
abbrev cX0_forgedSize : ByteArray := prog_2_method_7_code
def yX0_forgedSize : MethodName := ⟨RX0, "forgedSize", "(I)I"⟩
abbrev cX0_nightSize : ByteArray := prog_2_method_8_code
def yX0_nightSize : MethodName := ⟨RX0, "nightSize", "(I)I"⟩
abbrev cX0_lentMark : ByteArray := prog_2_method_9_code
def yX0_lentMark : MethodName := ⟨RX0, "lentMark", "(I)I"⟩
abbrev cX0_healthMark : ByteArray := prog_2_method_10_code
def yX0_healthMark : MethodName := ⟨RX0, "healthMark", "(I)I"⟩
abbrev cX0_forgedMark : ByteArray := prog_2_method_11_code
def yX0_forgedMark : MethodName := ⟨RX0, "forgedMark", "(I)I"⟩
abbrev cX0_nightMark : ByteArray := prog_2_method_12_code
def yX0_nightMark : MethodName := ⟨RX0, "nightMark", "(I)I"⟩
abbrev cX0_leave : ByteArray := prog_2_method_13_code
def yX0_leave : MethodName := ⟨RX0, "leave", "(I)V"⟩
def RX1 : String := "DuskGates$ByLaws"
def TX1 : u_T := fun k => match k with
  | 0 => ("DuskGates$ByLaws", "days", "[I", true)
  | 1 => ("DuskGates$ByLaws", "topics", "[I", true)
  | 2 => ("DuskGates$ByLaws", "values", "[I", true)
  | 3 => ("DuskGates$ByLaws", "standing", "I", false)
  | _ => ("DuskGates$ByLaws", "drafted", "I", false)
def tyX1 : Nat → FieldType := fun k => match k with
  | 0 => .array .int
  | 1 => .array .int
  | 2 => .array .int
  | 3 => .int
  | _ => .int
theorem nmX1 : ∀ a, a < 5 → ∀ b, b < 5 → a ≠ b → (TX1 a).2.1 ≠ (TX1 b).2.1 := by decide +kernel
theorem tyX1_ok : ∀ k, k < 5 → parseFieldDescriptor (TX1 k).2.2.1 = some (tyX1 k) := by decide +kernel
abbrev cX1_init : ByteArray := prog_3_method_1_code
def yX1_init : MethodName := ⟨RX1, "<init>", "()V"⟩
abbrev cX1_isTopic : ByteArray := prog_3_method_2_code
def yX1_isTopic : MethodName := ⟨RX1, "isTopic", "(I)Z"⟩
abbrev cX1_inForce : ByteArray := prog_3_method_3_code
def yX1_inForce : MethodName := ⟨RX1, "inForce", "(II)I"⟩
abbrev cX1_beginDraft : ByteArray := prog_3_method_4_code
def yX1_beginDraft : MethodName := ⟨RX1, "beginDraft", "()V"⟩
abbrev cX1_isDraftFull : ByteArray := prog_3_method_5_code
def yX1_isDraftFull : MethodName := ⟨RX1, "isDraftFull", "()Z"⟩
abbrev cX1_draft : ByteArray := prog_3_method_6_code
def yX1_draft : MethodName := ⟨RX1, "draft", "(III)V"⟩
abbrev cX1_passDraft : ByteArray := prog_3_method_7_code
def yX1_passDraft : MethodName := ⟨RX1, "passDraft", "()V"⟩
def RX2 : String := "DuskGates$Carts"
def TX2 : u_T := fun k => match k with
  | 0 => ("DuskGates$Carts", "gates", "LDuskGates$Gates;", true)
  | 1 => ("DuskGates$Carts", "bylaws", "LDuskGates$ByLaws;", true)
  | 2 => ("DuskGates$Carts", "loads", "[I", true)
  | 3 => ("DuskGates$Carts", "carts", "I", false)
  | 4 => ("DuskGates$Carts", "times", "[I", true)
  | 5 => ("DuskGates$Carts", "passers", "[I", true)
  | 6 => ("DuskGates$Carts", "ways", "[I", true)
  | 7 => ("DuskGates$Carts", "passed", "[I", true)
  | 8 => ("DuskGates$Carts", "payments", "[I", true)
  | _ => ("DuskGates$Carts", "passings", "I", false)
def tyX2 : Nat → FieldType := fun k => match k with
  | 0 => .object "DuskGates$Gates"
  | 1 => .object "DuskGates$ByLaws"
  | 2 => .array .int
  | 3 => .int
  | 4 => .array .int
  | 5 => .array .int
  | 6 => .array .int
  | 7 => .array .int
  | 8 => .array .int
  | _ => .int
theorem nmX2 : ∀ a, a < 10 → ∀ b, b < 10 → a ≠ b → (TX2 a).2.1 ≠ (TX2 b).2.1 := by decide +kernel
theorem tyX2_ok : ∀ k, k < 10 → parseFieldDescriptor (TX2 k).2.2.1 = some (tyX2 k) := by decide +kernel
abbrev cX2_init : ByteArray := prog_4_method_1_code
def yX2_init : MethodName := ⟨RX2, "<init>", "(LDuskGates$Gates;LDuskGates$ByLaws;)V"⟩
abbrev cX2_addCart : ByteArray := prog_4_method_2_code
def yX2_addCart : MethodName := ⟨RX2, "addCart", "(LDuskGates$Sheets;II)I"⟩
abbrev cX2_owedAt : ByteArray := prog_4_method_3_code
def yX2_owedAt : MethodName := ⟨RX2, "owedAt", "(III)I"⟩
abbrev cX2_leastGate : ByteArray := prog_4_method_4_code
def yX2_leastGate : MethodName := ⟨RX2, "leastGate", "(II)I"⟩
abbrev cX2_wholeToll : ByteArray := prog_4_method_5_code
def yX2_wholeToll : MethodName := ⟨RX2, "wholeToll", "(II)I"⟩
abbrev cX2_addPassing : ByteArray := prog_4_method_6_code
def yX2_addPassing : MethodName := ⟨RX2, "addPassing", "(IIIIII)I"⟩
abbrev cX2_shiftOn : ByteArray := prog_4_method_7_code
def yX2_shiftOn : MethodName := ⟨RX2, "shiftOn", "(I)V"⟩
abbrev cX2_wrongPassings : ByteArray := prog_4_method_8_code
def yX2_wrongPassings : MethodName := ⟨RX2, "wrongPassings", "()I"⟩
abbrev cX2_cartsInside : ByteArray := prog_4_method_9_code
def yX2_cartsInside : MethodName := ⟨RX2, "cartsInside", "()I"⟩
abbrev cX2_afterPassing : ByteArray := prog_4_method_10_code
def yX2_afterPassing : MethodName := ⟨RX2, "afterPassing", "(II)I"⟩
abbrev cX2_lostCarts : ByteArray := prog_4_method_11_code
def yX2_lostCarts : MethodName := ⟨RX2, "lostCarts", "()I"⟩
abbrev cX2_shortOf : ByteArray := prog_4_method_12_code
def yX2_shortOf : MethodName := ⟨RX2, "shortOf", "(III)I"⟩
def RX3 : String := "DuskGates$Fewest"
def TX3 : u_T := fun k => match k with
  | 0 => ("DuskGates$Fewest", "covers", "[I", true)
  | 1 => ("DuskGates$Fewest", "least", "I", false)
  | _ => ("DuskGates$Fewest", "sure", "I", false)
def tyX3 : Nat → FieldType := fun k => match k with
  | 0 => .array .int
  | 1 => .int
  | _ => .int
theorem nmX3 : ∀ a, a < 3 → ∀ b, b < 3 → a ≠ b → (TX3 a).2.1 ≠ (TX3 b).2.1 := by decide +kernel
theorem tyX3_ok : ∀ k, k < 3 → parseFieldDescriptor (TX3 k).2.2.1 = some (tyX3 k) := by decide +kernel
abbrev cX3_init : ByteArray := prog_5_method_1_code
def yX3_init : MethodName := ⟨RX3, "<init>", "()V"⟩
abbrev cX3_search : ByteArray := prog_5_method_2_code
def yX3_search : MethodName := ⟨RX3, "search", "(II)V"⟩
abbrev cX3_anyUse : ByteArray := prog_5_method_3_code
def yX3_anyUse : MethodName := ⟨RX3, "anyUse", "(I)I"⟩
abbrev cX3_doCover : ByteArray := prog_5_method_4_code
def yX3_doCover : MethodName := ⟨RX3, "doCover", "(III)Z"⟩
def RX4 : String := "DuskGates$Gates"
def TX4 : u_T := fun k => match k with
  | 0 => ("DuskGates$Gates", "opens", "[I", true)
  | 1 => ("DuskGates$Gates", "shuts", "[I", true)
  | 2 => ("DuskGates$Gates", "shares", "[I", true)
  | 3 => ("DuskGates$Gates", "xs", "[I", true)
  | _ => ("DuskGates$Gates", "ys", "[I", true)
def tyX4 : Nat → FieldType := fun k => match k with
  | 0 => .array .int
  | 1 => .array .int
  | 2 => .array .int
  | 3 => .array .int
  | _ => .array .int
theorem nmX4 : ∀ a, a < 5 → ∀ b, b < 5 → a ≠ b → (TX4 a).2.1 ≠ (TX4 b).2.1 := by decide +kernel
theorem tyX4_ok : ∀ k, k < 5 → parseFieldDescriptor (TX4 k).2.2.1 = some (tyX4 k) := by decide +kernel
abbrev cX4_init : ByteArray := prog_6_method_1_code
def yX4_init : MethodName := ⟨RX4, "<init>", "()V"⟩
abbrev cX4_isOpen : ByteArray := prog_6_method_2_code
def yX4_isOpen : MethodName := ⟨RX4, "isOpen", "(II)Z"⟩
abbrev cX4_firstIn : ByteArray := prog_6_method_3_code
def yX4_firstIn : MethodName := ⟨RX4, "firstIn", "(IIII)I"⟩
def RX5 : String := "DuskGates$Papers"
def TX5 : u_T := fun k => match k with
  | 0 => ("DuskGates$Papers", "gates", "LDuskGates$Gates;", true)
  | 1 => ("DuskGates$Papers", "bylaws", "LDuskGates$ByLaws;", true)
  | 2 => ("DuskGates$Papers", "rows", "[I", true)
  | 3 => ("DuskGates$Papers", "passes", "I", false)
  | 4 => ("DuskGates$Papers", "roads", "[I", true)
  | 5 => ("DuskGates$Papers", "roadsToGates", "[I", true)
  | 6 => ("DuskGates$Papers", "sickTowns", "[I", true)
  | 7 => ("DuskGates$Papers", "sickFrom", "[I", true)
  | 8 => ("DuskGates$Papers", "sickTo", "[I", true)
  | _ => ("DuskGates$Papers", "sicknesses", "I", false)
def tyX5 : Nat → FieldType := fun k => match k with
  | 0 => .object "DuskGates$Gates"
  | 1 => .object "DuskGates$ByLaws"
  | 2 => .array .int
  | 3 => .int
  | 4 => .array .int
  | 5 => .array .int
  | 6 => .array .int
  | 7 => .array .int
  | 8 => .array .int
  | _ => .int
theorem nmX5 : ∀ a, a < 10 → ∀ b, b < 10 → a ≠ b → (TX5 a).2.1 ≠ (TX5 b).2.1 := by decide +kernel
theorem tyX5_ok : ∀ k, k < 10 → parseFieldDescriptor (TX5 k).2.2.1 = some (tyX5 k) := by decide +kernel
abbrev cX5_init : ByteArray := prog_7_method_1_code
def yX5_init : MethodName := ⟨RX5, "<init>", "(LDuskGates$Gates;LDuskGates$ByLaws;)V"⟩
abbrev cX5_layRoad : ByteArray := prog_7_method_2_code
def yX5_layRoad : MethodName := ⟨RX5, "layRoad", "(III)I"⟩
abbrev cX5_layRoadToGates : ByteArray := prog_7_method_3_code
def yX5_layRoadToGates : MethodName := ⟨RX5, "layRoadToGates", "(II)I"⟩
abbrev cX5_addSick : ByteArray := prog_7_method_4_code
def yX5_addSick : MethodName := ⟨RX5, "addSick", "(III)I"⟩
abbrev cX5_addPass : ByteArray := prog_7_method_5_code
def yX5_addPass : MethodName := ⟨RX5, "addPass", "(LDuskGates$Sheets;II)I"⟩
abbrev cX5_itemOf : ByteArray := prog_7_method_6_code
def yX5_itemOf : MethodName := ⟨RX5, "itemOf", "(II)I"⟩
abbrev cX5_canBeTrue : ByteArray := prog_7_method_7_code
def yX5_canBeTrue : MethodName := ⟨RX5, "canBeTrue", "(I)Z"⟩
abbrev cX5_areFarEnough : ByteArray := prog_7_method_8_code
def yX5_areFarEnough : MethodName := ⟨RX5, "areFarEnough", "(II)Z"⟩
abbrev cX5_letsIn : ByteArray := prog_7_method_9_code
def yX5_letsIn : MethodName := ⟨RX5, "letsIn", "(IIII)Z"⟩
abbrev cX5_kindOn : ByteArray := prog_7_method_10_code
def yX5_kindOn : MethodName := ⟨RX5, "kindOn", "(II)I"⟩
abbrev cX5_isOfKind : ByteArray := prog_7_method_11_code
def yX5_isOfKind : MethodName := ⟨RX5, "isOfKind", "(III)Z"⟩
abbrev cX5_howMany : ByteArray := prog_7_method_12_code
def yX5_howMany : MethodName := ⟨RX5, "howMany", "(II)I"⟩
abbrev cX5_isForged : ByteArray := prog_7_method_13_code
def yX5_isForged : MethodName := ⟨RX5, "isForged", "(II)Z"⟩
abbrev cX5_wasSick : ByteArray := prog_7_method_14_code
def yX5_wasSick : MethodName := ⟨RX5, "wasSick", "(II)Z"⟩
abbrev cX5_isSealOfOtherHand : ByteArray := prog_7_method_15_code
def yX5_isSealOfOtherHand : MethodName := ⟨RX5, "isSealOfOtherHand", "(I)Z"⟩
def RX6 : String := "DuskGates$Queues"
def TX6 : u_T := fun k => match k with
  | 0 => ("DuskGates$Queues", "minutes", "[I", true)
  | 1 => ("DuskGates$Queues", "comers", "[I", true)
  | 2 => ("DuskGates$Queues", "arrivals", "I", false)
  | 3 => ("DuskGates$Queues", "freeAt", "[I", true)
  | 4 => ("DuskGates$Queues", "waits", "[I", true)
  | 5 => ("DuskGates$Queues", "best", "[I", true)
  | _ => ("DuskGates$Queues", "leastWaited", "I", false)
def tyX6 : Nat → FieldType := fun k => match k with
  | 0 => .array .int
  | 1 => .array .int
  | 2 => .int
  | 3 => .array .int
  | 4 => .array .int
  | 5 => .array .int
  | _ => .int
theorem nmX6 : ∀ a, a < 7 → ∀ b, b < 7 → a ≠ b → (TX6 a).2.1 ≠ (TX6 b).2.1 := by decide +kernel
theorem tyX6_ok : ∀ k, k < 7 → parseFieldDescriptor (TX6 k).2.2.1 = some (tyX6 k) := by decide +kernel
abbrev cX6_init : ByteArray := prog_8_method_1_code
def yX6_init : MethodName := ⟨RX6, "<init>", "()V"⟩
abbrev cX6_clear : ByteArray := prog_8_method_2_code
def yX6_clear : MethodName := ⟨RX6, "clear", "()V"⟩
abbrev cX6_comes : ByteArray := prog_8_method_3_code
def yX6_comes : MethodName := ⟨RX6, "comes", "(II)V"⟩
abbrev cX6_shareOut : ByteArray := prog_8_method_4_code
def yX6_shareOut : MethodName := ⟨RX6, "shareOut", "(II)Z"⟩
abbrev cX6_tryWay : ByteArray := prog_8_method_5_code
def yX6_tryWay : MethodName := ⟨RX6, "tryWay", "(IIII)V"⟩
abbrev cX6_waitedAt : ByteArray := prog_8_method_6_code
def yX6_waitedAt : MethodName := ⟨RX6, "waitedAt", "(III)I"⟩
abbrev cX6_firstFree : ByteArray := prog_8_method_7_code
def yX6_firstFree : MethodName := ⟨RX6, "firstFree", "(I)I"⟩
def RX7 : String := "DuskGates$Reader"
def TX7 : u_T := fun k => match k with
  | 0 => ("DuskGates$Reader", "bylaws", "LDuskGates$ByLaws;", true)
  | 1 => ("DuskGates$Reader", "bytes", "[I", true)
  | 2 => ("DuskGates$Reader", "length", "I", false)
  | 3 => ("DuskGates$Reader", "place", "I", false)
  | 4 => ("DuskGates$Reader", "tokenStart", "I", false)
  | 5 => ("DuskGates$Reader", "tokenSort", "I", false)
  | 6 => ("DuskGates$Reader", "number", "I", false)
  | 7 => ("DuskGates$Reader", "faultPlace", "I", false)
  | _ => ("DuskGates$Reader", "latestFault", "I", false)
def tyX7 : Nat → FieldType := fun k => match k with
  | 0 => .object "DuskGates$ByLaws"
  | 1 => .array .int
  | 2 => .int
  | 3 => .int
  | 4 => .int
  | 5 => .int
  | 6 => .int
  | 7 => .int
  | _ => .int
theorem nmX7 : ∀ a, a < 9 → ∀ b, b < 9 → a ≠ b → (TX7 a).2.1 ≠ (TX7 b).2.1 := by decide +kernel
theorem tyX7_ok : ∀ k, k < 9 → parseFieldDescriptor (TX7 k).2.2.1 = some (tyX7 k) := by decide +kernel
abbrev cX7_init : ByteArray := prog_9_method_1_code
def yX7_init : MethodName := ⟨RX7, "<init>", "(LDuskGates$ByLaws;)V"⟩
abbrev cX7_hasRoom : ByteArray := prog_9_method_2_code
def yX7_hasRoom : MethodName := ⟨RX7, "hasRoom", "(I)Z"⟩
abbrev cX7_append : ByteArray := prog_9_method_3_code
def yX7_append : MethodName := ⟨RX7, "append", "(JI)V"⟩
abbrev cX7_readTape : ByteArray := prog_9_method_4_code
def yX7_readTape : MethodName := ⟨RX7, "readTape", "()Z"⟩
abbrev cX7_readSection : ByteArray := prog_9_method_5_code
def yX7_readSection : MethodName := ⟨RX7, "readSection", "()Z"⟩
abbrev cX7_readLaw : ByteArray := prog_9_method_6_code
def yX7_readLaw : MethodName := ⟨RX7, "readLaw", "(I)Z"⟩
abbrev cX7_lawWord : ByteArray := prog_9_method_7_code
def yX7_lawWord : MethodName := ⟨RX7, "lawWord", "()I"⟩
abbrev cX7_isNumberUpTo : ByteArray := prog_9_method_8_code
def yX7_isNumberUpTo : MethodName := ⟨RX7, "isNumberUpTo", "(I)Z"⟩
abbrev cX7_blame : ByteArray := prog_9_method_9_code
def yX7_blame : MethodName := ⟨RX7, "blame", "(I)Z"⟩
abbrev cX7_spells : ByteArray := prog_9_method_10_code
def yX7_spells : MethodName := ⟨RX7, "spells", "(Ljava/lang/String;)Z"⟩
abbrev cX7_nextToken : ByteArray := prog_9_method_11_code
def yX7_nextToken : MethodName := ⟨RX7, "nextToken", "()V"⟩
abbrev cX7_readName : ByteArray := prog_9_method_12_code
def yX7_readName : MethodName := ⟨RX7, "readName", "()V"⟩
abbrev cX7_readNumber : ByteArray := prog_9_method_13_code
def yX7_readNumber : MethodName := ⟨RX7, "readNumber", "()V"⟩
abbrev cX7_isLetter : ByteArray := prog_9_method_14_code
def yX7_isLetter : MethodName := ⟨RX7, "isLetter", "(I)Z"⟩
abbrev cX7_isFigure : ByteArray := prog_9_method_15_code
def yX7_isFigure : MethodName := ⟨RX7, "isFigure", "(I)Z"⟩
def RX8 : String := "DuskGates$Sheets"
def TX8 : u_T := fun k => match k with
  | 0 => ("DuskGates$Sheets", "items", "[I", true)
  | 1 => ("DuskGates$Sheets", "lanes", "[I", true)
  | _ => ("DuskGates$Sheets", "sizes", "[I", true)
def tyX8 : Nat → FieldType := fun k => match k with
  | 0 => .array .int
  | 1 => .array .int
  | _ => .array .int
theorem nmX8 : ∀ a, a < 3 → ∀ b, b < 3 → a ≠ b → (TX8 a).2.1 ≠ (TX8 b).2.1 := by decide +kernel
theorem tyX8_ok : ∀ k, k < 3 → parseFieldDescriptor (TX8 k).2.2.1 = some (tyX8 k) := by decide +kernel
abbrev cX8_init : ByteArray := prog_10_method_1_code
def yX8_init : MethodName := ⟨RX8, "<init>", "()V"⟩
abbrev cX8_isMissing : ByteArray := prog_10_method_2_code
def yX8_isMissing : MethodName := ⟨RX8, "isMissing", "(I)Z"⟩
abbrev cX8_laneOf : ByteArray := prog_10_method_3_code
def yX8_laneOf : MethodName := ⟨RX8, "laneOf", "(I)I"⟩
abbrev cX8_hasPlaces : ByteArray := prog_10_method_4_code
def yX8_hasPlaces : MethodName := ⟨RX8, "hasPlaces", "(III)Z"⟩
abbrev cX8_itemAt : ByteArray := prog_10_method_5_code
def yX8_itemAt : MethodName := ⟨RX8, "itemAt", "(II)I"⟩
abbrev cX8_lay : ByteArray := prog_10_method_6_code
def yX8_lay : MethodName := ⟨RX8, "lay", "(III)V"⟩
abbrev cX8_put : ByteArray := prog_10_method_7_code
def yX8_put : MethodName := ⟨RX8, "put", "(III)I"⟩
abbrev cX8_move : ByteArray := prog_10_method_8_code
def yX8_move : MethodName := ⟨RX8, "move", "(IIIII)V"⟩
abbrev cX8_takeAway : ByteArray := prog_10_method_9_code
def yX8_takeAway : MethodName := ⟨RX8, "takeAway", "(I)I"⟩
abbrev cX8_present : ByteArray := prog_10_method_10_code
def yX8_present : MethodName := ⟨RX8, "present", "()I"⟩
abbrev cX8_cutTo : ByteArray := prog_10_method_11_code
def yX8_cutTo : MethodName := ⟨RX8, "cutTo", "(II)I"⟩
def RX9 : String := "DuskGates$Sickness"
def TX9 : u_T := fun k => match k with
  | 0 => ("DuskGates$Sickness", "persons", "[I", true)
  | 1 => ("DuskGates$Sickness", "houses", "[I", true)
  | 2 => ("DuskGates$Sickness", "froms", "[I", true)
  | 3 => ("DuskGates$Sickness", "tos", "[I", true)
  | 4 => ("DuskGates$Sickness", "guests", "I", false)
  | _ => ("DuskGates$Sickness", "cases", "[I", true)
def tyX9 : Nat → FieldType := fun k => match k with
  | 0 => .array .int
  | 1 => .array .int
  | 2 => .array .int
  | 3 => .array .int
  | 4 => .int
  | _ => .array .int
theorem nmX9 : ∀ a, a < 6 → ∀ b, b < 6 → a ≠ b → (TX9 a).2.1 ≠ (TX9 b).2.1 := by decide +kernel
theorem tyX9_ok : ∀ k, k < 6 → parseFieldDescriptor (TX9 k).2.2.1 = some (tyX9 k) := by decide +kernel
abbrev cX9_init : ByteArray := prog_11_method_1_code
def yX9_init : MethodName := ⟨RX9, "<init>", "()V"⟩
abbrev cX9_addGuest : ByteArray := prog_11_method_2_code
def yX9_addGuest : MethodName := ⟨RX9, "addGuest", "(IIII)I"⟩
abbrev cX9_addCase : ByteArray := prog_11_method_3_code
def yX9_addCase : MethodName := ⟨RX9, "addCase", "(II)Z"⟩
abbrev cX9_housesWithCases : ByteArray := prog_11_method_4_code
def yX9_housesWithCases : MethodName := ⟨RX9, "housesWithCases", "()I"⟩
abbrev cX9_tellWhoMay : ByteArray := prog_11_method_5_code
def yX9_tellWhoMay : MethodName := ⟨RX9, "tellWhoMay", "([I)V"⟩
def RX10 : String := "DuskGates$Wall"
def TX10 : u_T := fun k => match k with
  | 0 => ("DuskGates$Wall", "heights", "[I", true)
  | 1 => ("DuskGates$Wall", "insides", "[I", true)
  | 2 => ("DuskGates$Wall", "outsides", "[I", true)
  | _ => ("DuskGates$Wall", "leaning", "I", false)
def tyX10 : Nat → FieldType := fun k => match k with
  | 0 => .array .int
  | 1 => .array .int
  | 2 => .array .int
  | _ => .int
theorem nmX10 : ∀ a, a < 4 → ∀ b, b < 4 → a ≠ b → (TX10 a).2.1 ≠ (TX10 b).2.1 := by decide +kernel
theorem tyX10_ok : ∀ k, k < 4 → parseFieldDescriptor (TX10 k).2.2.1 = some (tyX10 k) := by decide +kernel
abbrev cX10_init : ByteArray := prog_12_method_1_code
def yX10_init : MethodName := ⟨RX10, "<init>", "()V"⟩
abbrev cX10_addHouse : ByteArray := prog_12_method_2_code
def yX10_addHouse : MethodName := ⟨RX10, "addHouse", "(III)I"⟩
abbrev cX10_passable : ByteArray := prog_12_method_3_code
def yX10_passable : MethodName := ⟨RX10, "passable", "()I"⟩
def RX11 : String := "DuskGates"
def TX11 : u_T := fun k => match k with
  | 0 => ("DuskGates", "sheets", "LDuskGates$Sheets;", true)
  | 1 => ("DuskGates", "gates", "LDuskGates$Gates;", true)
  | 2 => ("DuskGates", "bylaws", "LDuskGates$ByLaws;", true)
  | 3 => ("DuskGates", "reader", "LDuskGates$Reader;", true)
  | 4 => ("DuskGates", "carts", "LDuskGates$Carts;", true)
  | 5 => ("DuskGates", "papers", "LDuskGates$Papers;", true)
  | 6 => ("DuskGates", "asks", "LDuskGates$Asks;", true)
  | 7 => ("DuskGates", "queues", "LDuskGates$Queues;", true)
  | 8 => ("DuskGates", "sickness", "LDuskGates$Sickness;", true)
  | 9 => ("DuskGates", "wall", "LDuskGates$Wall;", true)
  | 10 => ("DuskGates", "fewest", "LDuskGates$Fewest;", true)
  | 11 => ("DuskGates", "theDay", "I", false)
  | _ => ("DuskGates", "finding", "I", false)
def tyX11 : Nat → FieldType := fun k => match k with
  | 0 => .object "DuskGates$Sheets"
  | 1 => .object "DuskGates$Gates"
  | 2 => .object "DuskGates$ByLaws"
  | 3 => .object "DuskGates$Reader"
  | 4 => .object "DuskGates$Carts"
  | 5 => .object "DuskGates$Papers"
  | 6 => .object "DuskGates$Asks"
  | 7 => .object "DuskGates$Queues"
  | 8 => .object "DuskGates$Sickness"
  | 9 => .object "DuskGates$Wall"
  | 10 => .object "DuskGates$Fewest"
  | 11 => .int
  | _ => .int
theorem nmX11 : ∀ a, a < 13 → ∀ b, b < 13 → a ≠ b → (TX11 a).2.1 ≠ (TX11 b).2.1 := by decide +kernel
theorem tyX11_ok : ∀ k, k < 13 → parseFieldDescriptor (TX11 k).2.2.1 = some (tyX11 k) := by decide +kernel
abbrev cX11_init : ByteArray := prog_1_method_1_code
def yX11_init : MethodName := ⟨RX11, "<init>", "()V"⟩
abbrev cX11_sheet : ByteArray := prog_1_method_2_code
def yX11_sheet : MethodName := ⟨RX11, "sheet", "(III)I"⟩
abbrev cX11_set : ByteArray := prog_1_method_3_code
def yX11_set : MethodName := ⟨RX11, "set", "(III)I"⟩
abbrev cX11_copy : ByteArray := prog_1_method_4_code
def yX11_copy : MethodName := ⟨RX11, "copy", "(IIIII)I"⟩
abbrev cX11_drop : ByteArray := prog_1_method_5_code
def yX11_drop : MethodName := ⟨RX11, "drop", "(I)I"⟩
abbrev cX11_bell : ByteArray := prog_1_method_6_code
def yX11_bell : MethodName := ⟨RX11, "bell", "(III)I"⟩
abbrev cX11_part : ByteArray := prog_1_method_7_code
def yX11_part : MethodName := ⟨RX11, "part", "(II)I"⟩
abbrev cX11_stands : ByteArray := prog_1_method_8_code
def yX11_stands : MethodName := ⟨RX11, "stands", "(III)I"⟩
abbrev cX11_feed : ByteArray := prog_1_method_9_code
def yX11_feed : MethodName := ⟨RX11, "feed", "(JI)I"⟩
abbrev cX11_laws : ByteArray := prog_1_method_10_code
def yX11_laws : MethodName := ⟨RX11, "laws", "()I"⟩
abbrev cX11_fault : ByteArray := prog_1_method_11_code
def yX11_fault : MethodName := ⟨RX11, "fault", "()I"⟩
abbrev cX11_holds : ByteArray := prog_1_method_12_code
def yX11_holds : MethodName := ⟨RX11, "holds", "(II)I"⟩
abbrev cX11_cart : ByteArray := prog_1_method_13_code
def yX11_cart : MethodName := ⟨RX11, "cart", "(II)I"⟩
abbrev cX11_owed : ByteArray := prog_1_method_14_code
def yX11_owed : MethodName := ⟨RX11, "owed", "(III)I"⟩
abbrev cX11_pass : ByteArray := prog_1_method_15_code
def yX11_pass : MethodName := ⟨RX11, "pass", "(IIIIII)I"⟩
abbrev cX11_agree : ByteArray := prog_1_method_16_code
def yX11_agree : MethodName := ⟨RX11, "agree", "(I)I"⟩
abbrev cX11_amiss : ByteArray := prog_1_method_17_code
def yX11_amiss : MethodName := ⟨RX11, "amiss", "(III)I"⟩
abbrev cX11_road : ByteArray := prog_1_method_18_code
def yX11_road : MethodName := ⟨RX11, "road", "(III)I"⟩
abbrev cX11_sick : ByteArray := prog_1_method_19_code
def yX11_sick : MethodName := ⟨RX11, "sick", "(III)I"⟩
abbrev cX11_seal : ByteArray := prog_1_method_20_code
def yX11_seal : MethodName := ⟨RX11, "seal", "(II)I"⟩
abbrev cX11_canbe : ByteArray := prog_1_method_21_code
def yX11_canbe : MethodName := ⟨RX11, "canbe", "(I)I"⟩
abbrev cX11_lets : ByteArray := prog_1_method_22_code
def yX11_lets : MethodName := ⟨RX11, "lets", "(IIII)I"⟩
abbrev cX11_dusk : ByteArray := prog_1_method_23_code
def yX11_dusk : MethodName := ⟨RX11, "dusk", "(IIII)I"⟩
abbrev cX11_clerks : ByteArray := prog_1_method_24_code
def yX11_clerks : MethodName := ⟨RX11, "clerks", "(IIIIII)I"⟩
abbrev cX11_guest : ByteArray := prog_1_method_25_code
def yX11_guest : MethodName := ⟨RX11, "guest", "(IIII)I"⟩
abbrev cX11_fell : ByteArray := prog_1_method_26_code
def yX11_fell : MethodName := ⟨RX11, "fell", "(II)I"⟩
abbrev cX11_brought : ByteArray := prog_1_method_27_code
def yX11_brought : MethodName := ⟨RX11, "brought", "(I)I"⟩
abbrev cX11_high : ByteArray := prog_1_method_28_code
def yX11_high : MethodName := ⟨RX11, "high", "(II)I"⟩
abbrev cX11_lean : ByteArray := prog_1_method_29_code
def yX11_lean : MethodName := ⟨RX11, "lean", "(III)I"⟩
abbrev cX11_breaches : ByteArray := prog_1_method_30_code
def yX11_breaches : MethodName := ⟨RX11, "breaches", "()I"⟩
abbrev cX11_watch : ByteArray := prog_1_method_31_code
def yX11_watch : MethodName := ⟨RX11, "watch", "(III)I"⟩
abbrev cX11_day : ByteArray := prog_1_method_32_code
def yX11_day : MethodName := ⟨RX11, "day", "(I)I"⟩
abbrev cX11_kind : ByteArray := prog_1_method_33_code
def yX11_kind : MethodName := ⟨RX11, "kind", "(I)I"⟩
abbrev cX11_as : ByteArray := prog_1_method_34_code
def yX11_as : MethodName := ⟨RX11, "as", "(II)I"⟩
abbrev cX11_ask : ByteArray := prog_1_method_35_code
def yX11_ask : MethodName := ⟨RX11, "ask", "(II)I"⟩
abbrev cX11_trace : ByteArray := prog_1_method_36_code
def yX11_trace : MethodName := ⟨RX11, "trace", "(I)I"⟩
abbrev cX11_count : ByteArray := prog_1_method_37_code
def yX11_count : MethodName := ⟨RX11, "count", "(I)I"⟩
abbrev cX11_status : ByteArray := prog_1_method_38_code
def yX11_status : MethodName := ⟨RX11, "status", "()I"⟩
abbrev cX11_found : ByteArray := prog_1_method_39_code
def yX11_found : MethodName := ⟨RX11, "found", "(I)I"⟩
abbrev cX11_fine : ByteArray := prog_1_method_40_code
def yX11_fine : MethodName := ⟨RX11, "fine", "(I)I"⟩
abbrev cX11_flawOf : ByteArray := prog_1_method_41_code
def yX11_flawOf : MethodName := ⟨RX11, "flawOf", "(III)I"⟩
abbrev cX11_isCart : ByteArray := prog_1_method_42_code
def yX11_isCart : MethodName := ⟨RX11, "isCart", "(I)Z"⟩
abbrev cX11_isPass : ByteArray := prog_1_method_43_code
def yX11_isPass : MethodName := ⟨RX11, "isPass", "(I)Z"⟩
abbrev cX11_isSheet : ByteArray := prog_1_method_44_code
def yX11_isSheet : MethodName := ⟨RX11, "isSheet", "(I)Z"⟩
abbrev cX11_isGate : ByteArray := prog_1_method_45_code
def yX11_isGate : MethodName := ⟨RX11, "isGate", "(I)Z"⟩
abbrev cX11_isTown : ByteArray := prog_1_method_46_code
def yX11_isTown : MethodName := ⟨RX11, "isTown", "(I)Z"⟩
abbrev cX11_isPerson : ByteArray := prog_1_method_47_code
def yX11_isPerson : MethodName := ⟨RX11, "isPerson", "(I)Z"⟩
abbrev cX11_isHouse : ByteArray := prog_1_method_48_code
def yX11_isHouse : MethodName := ⟨RX11, "isHouse", "(I)Z"⟩
abbrev cX11_isLength : ByteArray := prog_1_method_49_code
def yX11_isLength : MethodName := ⟨RX11, "isLength", "(I)Z"⟩
abbrev cX11_isDay : ByteArray := prog_1_method_50_code
def yX11_isDay : MethodName := ⟨RX11, "isDay", "(I)Z"⟩
abbrev cX11_areDays : ByteArray := prog_1_method_51_code
def yX11_areDays : MethodName := ⟨RX11, "areDays", "(II)Z"⟩
abbrev cX11_isMinute : ByteArray := prog_1_method_52_code
def yX11_isMinute : MethodName := ⟨RX11, "isMinute", "(I)Z"⟩
abbrev cX11_isPlace : ByteArray := prog_1_method_53_code
def yX11_isPlace : MethodName := ⟨RX11, "isPlace", "(II)Z"⟩
abbrev cX11_within : ByteArray := prog_1_method_54_code
def yX11_within : MethodName := ⟨RX11, "within", "(III)Z"⟩
def RX12 : String := "DuskGatesModel"
def TX12 : u_T := fun k => match k with
  | 0 => ("DuskGatesModel", "thrown", "I", false)
  | 1 => ("DuskGatesModel", "status", "I", false)
  | 2 => ("DuskGatesModel", "lane", "[I", true)
  | 3 => ("DuskGatesModel", "many", "[I", true)
  | 4 => ("DuskGatesModel", "item", "[I", true)
  | 5 => ("DuskGatesModel", "opens", "[I", true)
  | 6 => ("DuskGatesModel", "shuts", "[I", true)
  | 7 => ("DuskGatesModel", "share", "[I", true)
  | 8 => ("DuskGatesModel", "gateX", "[I", true)
  | 9 => ("DuskGatesModel", "gateY", "[I", true)
  | 10 => ("DuskGatesModel", "laws", "I", false)
  | 11 => ("DuskGatesModel", "lawDay", "[I", true)
  | 12 => ("DuskGatesModel", "lawWhat", "[I", true)
  | 13 => ("DuskGatesModel", "lawOf", "[I", true)
  | 14 => ("DuskGatesModel", "lawNumber", "[I", true)
  | 15 => ("DuskGatesModel", "newLaws", "I", false)
  | 16 => ("DuskGatesModel", "tape", "[I", true)
  | 17 => ("DuskGatesModel", "taped", "I", false)
  | 18 => ("DuskGatesModel", "latest", "I", false)
  | 19 => ("DuskGatesModel", "size", "I", false)
  | 20 => ("DuskGatesModel", "cursor", "I", false)
  | 21 => ("DuskGatesModel", "token", "I", false)
  | 22 => ("DuskGatesModel", "from", "I", false)
  | 23 => ("DuskGatesModel", "till", "I", false)
  | 24 => ("DuskGatesModel", "fault", "I", false)
  | 25 => ("DuskGatesModel", "faultAt", "I", false)
  | 26 => ("DuskGatesModel", "carts", "I", false)
  | 27 => ("DuskGatesModel", "load", "[I", true)
  | 28 => ("DuskGatesModel", "passings", "I", false)
  | 29 => ("DuskGatesModel", "passCart", "[I", true)
  | 30 => ("DuskGatesModel", "passIn", "[I", true)
  | 31 => ("DuskGatesModel", "passGate", "[I", true)
  | 32 => ("DuskGatesModel", "passAt", "[I", true)
  | 33 => ("DuskGatesModel", "passPaid", "[I", true)
  | 34 => ("DuskGatesModel", "wrong", "I", false)
  | 35 => ("DuskGatesModel", "inside", "I", false)
  | 36 => ("DuskGatesModel", "lost", "I", false)
  | 37 => ("DuskGatesModel", "roads", "[I", true)
  | 38 => ("DuskGatesModel", "sicks", "I", false)
  | 39 => ("DuskGatesModel", "sickTown", "[I", true)
  | 40 => ("DuskGatesModel", "sickFrom", "[I", true)
  | 41 => ("DuskGatesModel", "sickTo", "[I", true)
  | 42 => ("DuskGatesModel", "passes", "I", false)
  | 43 => ("DuskGatesModel", "paper", "[I", true)
  | 44 => ("DuskGatesModel", "theDay", "I", false)
  | 45 => ("DuskGatesModel", "free", "[I", true)
  | 46 => ("DuskGatesModel", "bestClerks", "[I", true)
  | 47 => ("DuskGatesModel", "waits", "[I", true)
  | 48 => ("DuskGatesModel", "guests", "I", false)
  | 49 => ("DuskGatesModel", "guestPerson", "[I", true)
  | 50 => ("DuskGatesModel", "guestHouse", "[I", true)
  | 51 => ("DuskGatesModel", "guestFrom", "[I", true)
  | 52 => ("DuskGatesModel", "guestTo", "[I", true)
  | 53 => ("DuskGatesModel", "fellOn", "[I", true)
  | 54 => ("DuskGatesModel", "high", "[I", true)
  | 55 => ("DuskGatesModel", "leans", "I", false)
  | 56 => ("DuskGatesModel", "leanLength", "[I", true)
  | 57 => ("DuskGatesModel", "leanInside", "[I", true)
  | 58 => ("DuskGatesModel", "leanOutside", "[I", true)
  | 59 => ("DuskGatesModel", "trace", "[I", true)
  | _ => ("DuskGatesModel", "traced", "I", false)
def tyX12 : Nat → FieldType := fun k => match k with
  | 0 => .int
  | 1 => .int
  | 2 => .array .int
  | 3 => .array .int
  | 4 => .array .int
  | 5 => .array .int
  | 6 => .array .int
  | 7 => .array .int
  | 8 => .array .int
  | 9 => .array .int
  | 10 => .int
  | 11 => .array .int
  | 12 => .array .int
  | 13 => .array .int
  | 14 => .array .int
  | 15 => .int
  | 16 => .array .int
  | 17 => .int
  | 18 => .int
  | 19 => .int
  | 20 => .int
  | 21 => .int
  | 22 => .int
  | 23 => .int
  | 24 => .int
  | 25 => .int
  | 26 => .int
  | 27 => .array .int
  | 28 => .int
  | 29 => .array .int
  | 30 => .array .int
  | 31 => .array .int
  | 32 => .array .int
  | 33 => .array .int
  | 34 => .int
  | 35 => .int
  | 36 => .int
  | 37 => .array .int
  | 38 => .int
  | 39 => .array .int
  | 40 => .array .int
  | 41 => .array .int
  | 42 => .int
  | 43 => .array .int
  | 44 => .int
  | 45 => .array .int
  | 46 => .array .int
  | 47 => .array .int
  | 48 => .int
  | 49 => .array .int
  | 50 => .array .int
  | 51 => .array .int
  | 52 => .array .int
  | 53 => .array .int
  | 54 => .array .int
  | 55 => .int
  | 56 => .array .int
  | 57 => .array .int
  | 58 => .array .int
  | 59 => .array .int
  | _ => .int
theorem nmX12 : ∀ a, a < 61 → ∀ b, b < 61 → a ≠ b → (TX12 a).2.1 ≠ (TX12 b).2.1 := by decide +kernel
theorem tyX12_ok : ∀ k, k < 61 → parseFieldDescriptor (TX12 k).2.2.1 = some (tyX12 k) := by decide +kernel
abbrev cX12_in : ByteArray := prog_14_method_2_code
def yX12_in : MethodName := ⟨RX12, "in", "(JJJ)Z"⟩
abbrev cX12_finding : ByteArray := prog_14_method_3_code
def yX12_finding : MethodName := ⟨RX12, "finding", "(I)I"⟩
abbrev cX12_init : ByteArray := prog_14_method_4_code
def yX12_init : MethodName := ⟨RX12, "<init>", "()V"⟩
abbrev cX12_isSheet : ByteArray := prog_14_method_5_code
def yX12_isSheet : MethodName := ⟨RX12, "isSheet", "(I)Z"⟩
abbrev cX12_sheet : ByteArray := prog_14_method_6_code
def yX12_sheet : MethodName := ⟨RX12, "sheet", "(III)I"⟩
abbrev cX12_set : ByteArray := prog_14_method_7_code
def yX12_set : MethodName := ⟨RX12, "set", "(III)I"⟩
abbrev cX12_copy : ByteArray := prog_14_method_8_code
def yX12_copy : MethodName := ⟨RX12, "copy", "(IIIII)I"⟩
abbrev cX12_drop : ByteArray := prog_14_method_9_code
def yX12_drop : MethodName := ⟨RX12, "drop", "(I)I"⟩
abbrev cX12_lookItems : ByteArray := prog_14_method_10_code
def yX12_lookItems : MethodName := ⟨RX12, "lookItems", "(III)I"⟩
abbrev cX12_isGate : ByteArray := prog_14_method_11_code
def yX12_isGate : MethodName := ⟨RX12, "isGate", "(I)Z"⟩
abbrev cX12_isDay : ByteArray := prog_14_method_12_code
def yX12_isDay : MethodName := ⟨RX12, "isDay", "(I)Z"⟩
abbrev cX12_isMinute : ByteArray := prog_14_method_13_code
def yX12_isMinute : MethodName := ⟨RX12, "isMinute", "(I)Z"⟩
abbrev cX12_isSpot : ByteArray := prog_14_method_14_code
def yX12_isSpot : MethodName := ⟨RX12, "isSpot", "(II)Z"⟩
abbrev cX12_bell : ByteArray := prog_14_method_15_code
def yX12_bell : MethodName := ⟨RX12, "bell", "(III)I"⟩
abbrev cX12_part : ByteArray := prog_14_method_16_code
def yX12_part : MethodName := ⟨RX12, "part", "(II)I"⟩
abbrev cX12_stands : ByteArray := prog_14_method_17_code
def yX12_stands : MethodName := ⟨RX12, "stands", "(III)I"⟩
abbrev cX12_isOpen : ByteArray := prog_14_method_18_code
def yX12_isOpen : MethodName := ⟨RX12, "isOpen", "(II)Z"⟩
abbrev cX12_feed : ByteArray := prog_14_method_19_code
def yX12_feed : MethodName := ⟨RX12, "feed", "(JI)I"⟩
abbrev cX12_byteAt : ByteArray := prog_14_method_20_code
def yX12_byteAt : MethodName := ⟨RX12, "byteAt", "(I)I"⟩
abbrev cX12_isLetter : ByteArray := prog_14_method_21_code
def yX12_isLetter : MethodName := ⟨RX12, "isLetter", "(I)Z"⟩
abbrev cX12_isFigure : ByteArray := prog_14_method_22_code
def yX12_isFigure : MethodName := ⟨RX12, "isFigure", "(I)Z"⟩
abbrev cX12_step : ByteArray := prog_14_method_23_code
def yX12_step : MethodName := ⟨RX12, "step", "()V"⟩
abbrev cX12_bad : ByteArray := prog_14_method_24_code
def yX12_bad : MethodName := ⟨RX12, "bad", "(I)V"⟩
abbrev cX12_need : ByteArray := prog_14_method_25_code
def yX12_need : MethodName := ⟨RX12, "need", "(Z)V"⟩
abbrev cX12_word : ByteArray := prog_14_method_26_code
def yX12_word : MethodName := ⟨RX12, "word", "()J"⟩
abbrev cX12_numberTo : ByteArray := prog_14_method_27_code
def yX12_numberTo : MethodName := ⟨RX12, "numberTo", "(I)I"⟩
abbrev cX12_lawOfWord : ByteArray := prog_14_method_28_code
def yX12_lawOfWord : MethodName := ⟨RX12, "lawOfWord", "()I"⟩
abbrev cX12_readLaw : ByteArray := prog_14_method_29_code
def yX12_readLaw : MethodName := ⟨RX12, "readLaw", "(I)V"⟩
abbrev cX12_laws : ByteArray := prog_14_method_30_code
def yX12_laws : MethodName := ⟨RX12, "laws", "()I"⟩
abbrev cX12_fault : ByteArray := prog_14_method_31_code
def yX12_fault : MethodName := ⟨RX12, "fault", "()I"⟩
abbrev cX12_lawFor : ByteArray := prog_14_method_32_code
def yX12_lawFor : MethodName := ⟨RX12, "lawFor", "(IIII)I"⟩
abbrev cX12_numberFor : ByteArray := prog_14_method_33_code
def yX12_numberFor : MethodName := ⟨RX12, "numberFor", "(III)I"⟩
abbrev cX12_isGood : ByteArray := prog_14_method_34_code
def yX12_isGood : MethodName := ⟨RX12, "isGood", "(II)Z"⟩
abbrev cX12_isBanned : ByteArray := prog_14_method_35_code
def yX12_isBanned : MethodName := ⟨RX12, "isBanned", "(II)Z"⟩
abbrev cX12_holds : ByteArray := prog_14_method_36_code
def yX12_holds : MethodName := ⟨RX12, "holds", "(II)I"⟩
abbrev cX12_cart : ByteArray := prog_14_method_37_code
def yX12_cart : MethodName := ⟨RX12, "cart", "(II)I"⟩
abbrev cX12_isCart : ByteArray := prog_14_method_38_code
def yX12_isCart : MethodName := ⟨RX12, "isCart", "(I)Z"⟩
abbrev cX12_owedBy : ByteArray := prog_14_method_39_code
def yX12_owedBy : MethodName := ⟨RX12, "owedBy", "(III)I"⟩
abbrev cX12_owed : ByteArray := prog_14_method_40_code
def yX12_owed : MethodName := ⟨RX12, "owed", "(III)I"⟩
abbrev cX12_pass : ByteArray := prog_14_method_41_code
def yX12_pass : MethodName := ⟨RX12, "pass", "(IIIIII)I"⟩
abbrev cX12_goThrough : ByteArray := prog_14_method_42_code
def yX12_goThrough : MethodName := ⟨RX12, "goThrough", "()V"⟩
abbrev cX12_agree : ByteArray := prog_14_method_43_code
def yX12_agree : MethodName := ⟨RX12, "agree", "(I)I"⟩
abbrev cX12_amiss : ByteArray := prog_14_method_44_code
def yX12_amiss : MethodName := ⟨RX12, "amiss", "(III)I"⟩
abbrev cX12_isTown : ByteArray := prog_14_method_45_code
def yX12_isTown : MethodName := ⟨RX12, "isTown", "(I)Z"⟩
abbrev cX12_isPerson : ByteArray := prog_14_method_46_code
def yX12_isPerson : MethodName := ⟨RX12, "isPerson", "(I)Z"⟩
abbrev cX12_road : ByteArray := prog_14_method_47_code
def yX12_road : MethodName := ⟨RX12, "road", "(III)I"⟩
abbrev cX12_sick : ByteArray := prog_14_method_48_code
def yX12_sick : MethodName := ⟨RX12, "sick", "(III)I"⟩
abbrev cX12_seal : ByteArray := prog_14_method_49_code
def yX12_seal : MethodName := ⟨RX12, "seal", "(II)I"⟩
abbrev cX12_isPass : ByteArray := prog_14_method_50_code
def yX12_isPass : MethodName := ⟨RX12, "isPass", "(I)Z"⟩
abbrev cX12_on : ByteArray := prog_14_method_51_code
def yX12_on : MethodName := ⟨RX12, "on", "(II)I"⟩
abbrev cX12_isForged : ByteArray := prog_14_method_52_code
def yX12_isForged : MethodName := ⟨RX12, "isForged", "(II)Z"⟩
abbrev cX12_kindOf : ByteArray := prog_14_method_53_code
def yX12_kindOf : MethodName := ⟨RX12, "kindOf", "(I)I"⟩
abbrev cX12_canbe : ByteArray := prog_14_method_54_code
def yX12_canbe : MethodName := ⟨RX12, "canbe", "(I)I"⟩
abbrev cX12_lets : ByteArray := prog_14_method_55_code
def yX12_lets : MethodName := ⟨RX12, "lets", "(IIII)I"⟩
abbrev cX12_far : ByteArray := prog_14_method_56_code
def yX12_far : MethodName := ⟨RX12, "far", "(II)I"⟩
abbrev cX12_dusk : ByteArray := prog_14_method_57_code
def yX12_dusk : MethodName := ⟨RX12, "dusk", "(IIII)I"⟩
abbrev cX12_waitedAt : ByteArray := prog_14_method_58_code
def yX12_waitedAt : MethodName := ⟨RX12, "waitedAt", "(IIIII)I"⟩
abbrev cX12_clerks : ByteArray := prog_14_method_59_code
def yX12_clerks : MethodName := ⟨RX12, "clerks", "(IIIIII)I"⟩
abbrev cX12_guest : ByteArray := prog_14_method_60_code
def yX12_guest : MethodName := ⟨RX12, "guest", "(IIII)I"⟩
abbrev cX12_fell : ByteArray := prog_14_method_61_code
def yX12_fell : MethodName := ⟨RX12, "fell", "(II)I"⟩
abbrev cX12_bits : ByteArray := prog_14_method_62_code
def yX12_bits : MethodName := ⟨RX12, "bits", "(I)I"⟩
abbrev cX12_whoMay : ByteArray := prog_14_method_63_code
def yX12_whoMay : MethodName := ⟨RX12, "whoMay", "(I)I"⟩
abbrev cX12_brought : ByteArray := prog_14_method_64_code
def yX12_brought : MethodName := ⟨RX12, "brought", "(I)I"⟩
abbrev cX12_isLength : ByteArray := prog_14_method_65_code
def yX12_isLength : MethodName := ⟨RX12, "isLength", "(I)Z"⟩
abbrev cX12_high : ByteArray := prog_14_method_66_code
def yX12_high : MethodName := ⟨RX12, "high", "(II)I"⟩
abbrev cX12_lean : ByteArray := prog_14_method_67_code
def yX12_lean : MethodName := ⟨RX12, "lean", "(III)I"⟩
abbrev cX12_breachesNow : ByteArray := prog_14_method_68_code
def yX12_breachesNow : MethodName := ⟨RX12, "breachesNow", "()I"⟩
abbrev cX12_breaches : ByteArray := prog_14_method_69_code
def yX12_breaches : MethodName := ⟨RX12, "breaches", "()I"⟩
abbrev cX12_watch : ByteArray := prog_14_method_70_code
def yX12_watch : MethodName := ⟨RX12, "watch", "(III)I"⟩
abbrev cX12_day : ByteArray := prog_14_method_71_code
def yX12_day : MethodName := ⟨RX12, "day", "(I)I"⟩
abbrev cX12_isOf : ByteArray := prog_14_method_72_code
def yX12_isOf : MethodName := ⟨RX12, "isOf", "(II)Z"⟩
abbrev cX12_kind : ByteArray := prog_14_method_73_code
def yX12_kind : MethodName := ⟨RX12, "kind", "(I)I"⟩
abbrev cX12_as : ByteArray := prog_14_method_74_code
def yX12_as : MethodName := ⟨RX12, "as", "(II)I"⟩
abbrev cX12_began : ByteArray := prog_14_method_75_code
def yX12_began : MethodName := ⟨RX12, "began", "(I)V"⟩
abbrev cX12_nightSize : ByteArray := prog_14_method_76_code
def yX12_nightSize : MethodName := ⟨RX12, "nightSize", "(I)I"⟩
abbrev cX12_markOf : ByteArray := prog_14_method_77_code
def yX12_markOf : MethodName := ⟨RX12, "markOf", "(II)I"⟩
abbrev cX12_sizeOf : ByteArray := prog_14_method_78_code
def yX12_sizeOf : MethodName := ⟨RX12, "sizeOf", "(II)I"⟩
abbrev cX12_ask : ByteArray := prog_14_method_79_code
def yX12_ask : MethodName := ⟨RX12, "ask", "(II)I"⟩
abbrev cX12_trace : ByteArray := prog_14_method_80_code
def yX12_trace : MethodName := ⟨RX12, "trace", "(I)I"⟩
abbrev cX12_count : ByteArray := prog_14_method_81_code
def yX12_count : MethodName := ⟨RX12, "count", "(I)I"⟩
abbrev cX12_status : ByteArray := prog_14_method_82_code
def yX12_status : MethodName := ⟨RX12, "status", "()I"⟩
def RJ6 : String := "java/lang/Integer"
abbrev cJ6_bitCount_0f7a4 : ByteArray := prog_15_method_49_code
def yJ6_bitCount_0f7a4 : MethodName := ⟨RJ6, "bitCount", "(I)I"⟩
def RJ9 : String := "java/lang/Math"
abbrev cJ9_abs_0f7a4 : ByteArray := prog_16_method_59_code
def yJ9_abs_0f7a4 : MethodName := ⟨RJ9, "abs", "(I)I"⟩
abbrev cJ9_max_7cf53 : ByteArray := prog_16_method_65_code
def yJ9_max_7cf53 : MethodName := ⟨RJ9, "max", "(II)I"⟩
def RJ0 : String := "java/lang/String"
abbrev cJ0_length_8abf5 : ByteArray := prog_17_method_54_code
def yJ0_length_8abf5 : MethodName := ⟨RJ0, "length", "()I"⟩
abbrev cJ0_charAt_5068e : ByteArray := prog_17_method_56_code
def yJ0_charAt_5068e : MethodName := ⟨RJ0, "charAt", "(I)C"⟩
abbrev cJ0_coder_7d493 : ByteArray := prog_17_method_152_code
def yJ0_coder_7d493 : MethodName := ⟨RJ0, "coder", "()B"⟩
abbrev cJ0_isLatin1_aae02 : ByteArray := prog_17_method_154_code
def yJ0_isLatin1_aae02 : MethodName := ⟨RJ0, "isLatin1", "()Z"⟩
abbrev cJ0_checkIndex_df160 : ByteArray := prog_17_method_155_code
def yJ0_checkIndex_df160 : MethodName := ⟨RJ0, "checkIndex", "(II)V"⟩
def RJ1 : String := "java/lang/StringLatin1"
abbrev cJ1_charAt_3b067 : ByteArray := prog_18_method_2_code
def yJ1_charAt_3b067 : MethodName := ⟨RJ1, "charAt", "([BI)C"⟩
def RJ2 : String := "java/lang/StringUTF16"
abbrev cJ2_getChar_3b067 : ByteArray := prog_19_method_5_code
def yJ2_getChar_3b067 : MethodName := ⟨RJ2, "getChar", "([BI)C"⟩
abbrev cJ2_length_9d52b : ByteArray := prog_19_method_6_code
def yJ2_length_9d52b : MethodName := ⟨RJ2, "length", "([B)I"⟩
abbrev cJ2_charAt_3b067 : ByteArray := prog_19_method_83_code
def yJ2_charAt_3b067 : MethodName := ⟨RJ2, "charAt", "([BI)C"⟩
abbrev cJ2_checkIndex_2214a : ByteArray := prog_19_method_91_code
def yJ2_checkIndex_2214a : MethodName := ⟨RJ2, "checkIndex", "(I[B)V"⟩
def RJ10 : String := "java/lang/System"
def RJ3 : String := "jdk/internal/util/Preconditions"
abbrev cJ3_checkIndex_8e157 : ByteArray := prog_21_method_11_code
def yJ3_checkIndex_8e157 : MethodName := ⟨RJ3, "checkIndex", "(IILjava/util/function/BiFunction;)I"⟩
def RL : String := "DuskGatesLaw"
abbrev cL_law : ByteArray := code
def yL_law : MethodName := ⟨RL, "law", "([I)Z"⟩
abbrev vwCl : List vw_C := [(RX0, TX0, 3), (RX1, TX1, 5), (RX2, TX2, 10), (RX3, TX3, 3), (RX4, TX4, 5), (RX5, TX5, 10), (RX6, TX6, 7), (RX7, TX7, 9), (RX8, TX8, 3), (RX9, TX9, 6), (RX10, TX10, 4), (RX11, TX11, 13), (RX12, TX12, 61)]
end
section
/-! the words of the tables that last, and which of them there are -/
def TB : List Cond := lw_tbl.filter goodWord
theorem tb_a {w : Cond} (i : Nat) (h : lw_tbl[i]? = some w) (hg : goodWord w = true) : w ∈ TB := List.mem_filter.mpr ⟨List.mem_of_getElem? h, hg⟩
theorem tb_r {ws : List Cond} (ps : List Nat) (hp : ws = ps.filterMap (fun i => lw_tbl[i]?)) (h : ws.all goodWord = true) : ∀ w ∈ ws, w ∈ TB := by
  intro w hw
  have h1 := List.all_eq_true.mp h w hw
  rw [hp] at hw
  obtain ⟨i, -, hi⟩ := List.mem_filterMap.mp hw
  exact List.mem_filter.mpr ⟨List.mem_of_getElem? hi, h1⟩
theorem tb_1 {w : Cond} (i : Nat) (h : tables_1_1[i]? = some w) (hg : goodWord w = true) : w ∈ TB := List.mem_filter.mpr ⟨List.mem_append_right _ ((fun h => List.mem_append_left _ h : w ∈ tables_1_1 → w ∈ tables_1) (List.mem_of_getElem? h)), hg⟩
theorem tb_2 {w : Cond} (i : Nat) (h : tables_1_2[i]? = some w) (hg : goodWord w = true) : w ∈ TB := List.mem_filter.mpr ⟨List.mem_append_right _ ((fun h => List.mem_append_right _ (List.mem_append_left _ h) : w ∈ tables_1_2 → w ∈ tables_1) (List.mem_of_getElem? h)), hg⟩
theorem tb_3 {w : Cond} (i : Nat) (h : tables_1_3[i]? = some w) (hg : goodWord w = true) : w ∈ TB := List.mem_filter.mpr ⟨List.mem_append_right _ ((fun h => List.mem_append_right _ (List.mem_append_right _ (List.mem_append_left _ h)) : w ∈ tables_1_3 → w ∈ tables_1) (List.mem_of_getElem? h)), hg⟩
theorem tb_4 {w : Cond} (i : Nat) (h : tables_1_4[i]? = some w) (hg : goodWord w = true) : w ∈ TB := List.mem_filter.mpr ⟨List.mem_append_right _ ((fun h => List.mem_append_right _ (List.mem_append_right _ (List.mem_append_right _ (List.mem_append_left _ h))) : w ∈ tables_1_4 → w ∈ tables_1) (List.mem_of_getElem? h)), hg⟩
theorem tb_5 {w : Cond} (i : Nat) (h : tables_1_5[i]? = some w) (hg : goodWord w = true) : w ∈ TB := List.mem_filter.mpr ⟨List.mem_append_right _ ((fun h => List.mem_append_right _ (List.mem_append_right _ (List.mem_append_right _ (List.mem_append_right _ (List.mem_append_left _ h)))) : w ∈ tables_1_5 → w ∈ tables_1) (List.mem_of_getElem? h)), hg⟩
theorem tb_6 {w : Cond} (i : Nat) (h : tables_1_6[i]? = some w) (hg : goodWord w = true) : w ∈ TB := List.mem_filter.mpr ⟨List.mem_append_right _ ((fun h => List.mem_append_right _ (List.mem_append_right _ (List.mem_append_right _ (List.mem_append_right _ (List.mem_append_right _ (List.mem_append_left _ h))))) : w ∈ tables_1_6 → w ∈ tables_1) (List.mem_of_getElem? h)), hg⟩
theorem tb_7 {w : Cond} (i : Nat) (h : tables_1_7[i]? = some w) (hg : goodWord w = true) : w ∈ TB := List.mem_filter.mpr ⟨List.mem_append_right _ ((fun h => List.mem_append_right _ (List.mem_append_right _ (List.mem_append_right _ (List.mem_append_right _ (List.mem_append_right _ (List.mem_append_right _ (h)))))) : w ∈ tables_1_7 → w ∈ tables_1) (List.mem_of_getElem? h)), hg⟩
theorem tb_p {y : MethodName} (i n : Nat) (h : lw_privs[i]? = some (y, n)) : Cond.selects y.cls y y ∈ TB := List.mem_filter.mpr ⟨List.mem_append_left _ (List.mem_map.mpr ⟨(y, n), List.mem_of_getElem? h, rfl⟩), rfl⟩
theorem qf_X8_9 : Cond.fieldLink RX8 9 "DuskGates$Sheets" "items" "[I" ∈ TB := tb_1 35 rfl rfl
theorem qf_X8_13 : Cond.fieldLink RX8 13 "DuskGates$Sheets" "lanes" "[I" ∈ TB := tb_1 36 rfl rfl
theorem qf_X8_16 : Cond.fieldLink RX8 16 "DuskGates$Sheets" "sizes" "[I" ∈ TB := tb_1 37 rfl rfl
theorem qf_X4_9 : Cond.fieldLink RX4 9 "DuskGates$Gates" "opens" "[I" ∈ TB := tb_1 52 rfl rfl
theorem qf_X11_138 : Cond.fieldLink RX11 138 "DuskGates$Gates" "opens" "[I" ∈ TB := tb_1 53 rfl rfl
theorem qf_X4_15 : Cond.fieldLink RX4 15 "DuskGates$Gates" "shuts" "[I" ∈ TB := tb_1 54 rfl rfl
theorem qf_X11_142 : Cond.fieldLink RX11 142 "DuskGates$Gates" "shuts" "[I" ∈ TB := tb_1 55 rfl rfl
theorem qf_X4_18 : Cond.fieldLink RX4 18 "DuskGates$Gates" "shares" "[I" ∈ TB := tb_1 56 rfl rfl
theorem qf_X2_51 : Cond.fieldLink RX2 51 "DuskGates$Gates" "shares" "[I" ∈ TB := tb_1 57 rfl rfl
theorem qf_X11_145 : Cond.fieldLink RX11 145 "DuskGates$Gates" "shares" "[I" ∈ TB := tb_1 58 rfl rfl
theorem qf_X4_21 : Cond.fieldLink RX4 21 "DuskGates$Gates" "xs" "[I" ∈ TB := tb_1 59 rfl rfl
theorem qf_X11_152 : Cond.fieldLink RX11 152 "DuskGates$Gates" "xs" "[I" ∈ TB := tb_1 60 rfl rfl
theorem qf_X4_24 : Cond.fieldLink RX4 24 "DuskGates$Gates" "ys" "[I" ∈ TB := tb_1 61 rfl rfl
theorem qf_X11_155 : Cond.fieldLink RX11 155 "DuskGates$Gates" "ys" "[I" ∈ TB := tb_1 62 rfl rfl
theorem qf_X1_11 : Cond.fieldLink RX1 11 "DuskGates$ByLaws" "days" "[I" ∈ TB := tb_1 80 rfl rfl
theorem qf_X1_15 : Cond.fieldLink RX1 15 "DuskGates$ByLaws" "topics" "[I" ∈ TB := tb_1 81 rfl rfl
theorem qf_X1_18 : Cond.fieldLink RX1 18 "DuskGates$ByLaws" "values" "[I" ∈ TB := tb_1 82 rfl rfl
theorem qf_X1_25 : Cond.fieldLink RX1 25 "DuskGates$ByLaws" "standing" "I" ∈ TB := tb_1 83 rfl rfl
theorem qf_X11_174 : Cond.fieldLink RX11 174 "DuskGates$ByLaws" "standing" "I" ∈ TB := tb_1 84 rfl rfl
theorem qf_X1_29 : Cond.fieldLink RX1 29 "DuskGates$ByLaws" "drafted" "I" ∈ TB := tb_1 85 rfl rfl
theorem qf_X7_15 : Cond.fieldLink RX7 15 "DuskGates$Reader" "bylaws" "LDuskGates$ByLaws;" ∈ TB := tb_1 103 rfl rfl
theorem qf_X7_11 : Cond.fieldLink RX7 11 "DuskGates$Reader" "bytes" "[I" ∈ TB := tb_1 104 rfl rfl
theorem qf_X7_19 : Cond.fieldLink RX7 19 "DuskGates$Reader" "length" "I" ∈ TB := tb_1 105 rfl rfl
theorem qf_X11_166 : Cond.fieldLink RX11 166 "DuskGates$Reader" "length" "I" ∈ TB := tb_1 106 rfl rfl
theorem qf_X7_23 : Cond.fieldLink RX7 23 "DuskGates$Reader" "place" "I" ∈ TB := tb_1 107 rfl rfl
theorem qf_X7_97 : Cond.fieldLink RX7 97 "DuskGates$Reader" "tokenStart" "I" ∈ TB := tb_1 108 rfl rfl
theorem qf_X7_34 : Cond.fieldLink RX7 34 "DuskGates$Reader" "tokenSort" "I" ∈ TB := tb_1 109 rfl rfl
theorem qf_X7_57 : Cond.fieldLink RX7 57 "DuskGates$Reader" "number" "I" ∈ TB := tb_1 110 rfl rfl
theorem qf_X7_100 : Cond.fieldLink RX7 100 "DuskGates$Reader" "faultPlace" "I" ∈ TB := tb_1 111 rfl rfl
theorem qf_X11_178 : Cond.fieldLink RX11 178 "DuskGates$Reader" "faultPlace" "I" ∈ TB := tb_1 112 rfl rfl
theorem qf_X7_94 : Cond.fieldLink RX7 94 "DuskGates$Reader" "latestFault" "I" ∈ TB := tb_1 113 rfl rfl
theorem qf_X11_181 : Cond.fieldLink RX11 181 "DuskGates$Reader" "latestFault" "I" ∈ TB := tb_1 114 rfl rfl
theorem qf_X2_30 : Cond.fieldLink RX2 30 "DuskGates$Carts" "gates" "LDuskGates$Gates;" ∈ TB := tb_1 140 rfl rfl
theorem qf_X2_34 : Cond.fieldLink RX2 34 "DuskGates$Carts" "bylaws" "LDuskGates$ByLaws;" ∈ TB := tb_1 141 rfl rfl
theorem qf_X2_11 : Cond.fieldLink RX2 11 "DuskGates$Carts" "loads" "[I" ∈ TB := tb_1 142 rfl rfl
theorem qf_X2_38 : Cond.fieldLink RX2 38 "DuskGates$Carts" "carts" "I" ∈ TB := tb_1 143 rfl rfl
theorem qf_X11_194 : Cond.fieldLink RX11 194 "DuskGates$Carts" "carts" "I" ∈ TB := tb_1 144 rfl rfl
theorem qf_X2_15 : Cond.fieldLink RX2 15 "DuskGates$Carts" "times" "[I" ∈ TB := tb_1 145 rfl rfl
theorem qf_X2_18 : Cond.fieldLink RX2 18 "DuskGates$Carts" "passers" "[I" ∈ TB := tb_1 146 rfl rfl
theorem qf_X2_21 : Cond.fieldLink RX2 21 "DuskGates$Carts" "ways" "[I" ∈ TB := tb_1 147 rfl rfl
theorem qf_X2_24 : Cond.fieldLink RX2 24 "DuskGates$Carts" "passed" "[I" ∈ TB := tb_1 148 rfl rfl
theorem qf_X2_27 : Cond.fieldLink RX2 27 "DuskGates$Carts" "payments" "[I" ∈ TB := tb_1 149 rfl rfl
theorem qf_X2_61 : Cond.fieldLink RX2 61 "DuskGates$Carts" "passings" "I" ∈ TB := tb_1 150 rfl rfl
theorem qf_X11_217 : Cond.fieldLink RX11 217 "DuskGates$Carts" "passings" "I" ∈ TB := tb_1 151 rfl rfl
theorem qf_X5_30 : Cond.fieldLink RX5 30 "DuskGates$Papers" "gates" "LDuskGates$Gates;" ∈ TB := tb_1 179 rfl rfl
theorem qf_X5_34 : Cond.fieldLink RX5 34 "DuskGates$Papers" "bylaws" "LDuskGates$ByLaws;" ∈ TB := tb_1 180 rfl rfl
theorem qf_X5_11 : Cond.fieldLink RX5 11 "DuskGates$Papers" "rows" "[I" ∈ TB := tb_1 181 rfl rfl
theorem qf_X5_42 : Cond.fieldLink RX5 42 "DuskGates$Papers" "passes" "I" ∈ TB := tb_1 182 rfl rfl
theorem qf_X11_255 : Cond.fieldLink RX11 255 "DuskGates$Papers" "passes" "I" ∈ TB := tb_1 183 rfl rfl
theorem qf_X5_15 : Cond.fieldLink RX5 15 "DuskGates$Papers" "roads" "[I" ∈ TB := tb_1 184 rfl rfl
theorem qf_X5_18 : Cond.fieldLink RX5 18 "DuskGates$Papers" "roadsToGates" "[I" ∈ TB := tb_1 185 rfl rfl
theorem qf_X5_21 : Cond.fieldLink RX5 21 "DuskGates$Papers" "sickTowns" "[I" ∈ TB := tb_1 186 rfl rfl
theorem qf_X5_24 : Cond.fieldLink RX5 24 "DuskGates$Papers" "sickFrom" "[I" ∈ TB := tb_1 187 rfl rfl
theorem qf_X5_27 : Cond.fieldLink RX5 27 "DuskGates$Papers" "sickTo" "[I" ∈ TB := tb_1 188 rfl rfl
theorem qf_X5_38 : Cond.fieldLink RX5 38 "DuskGates$Papers" "sicknesses" "I" ∈ TB := tb_1 189 rfl rfl
theorem qf_X11_249 : Cond.fieldLink RX11 249 "DuskGates$Papers" "sicknesses" "I" ∈ TB := tb_1 190 rfl rfl
theorem qf_X0_13 : Cond.fieldLink RX0 13 "DuskGates$Asks" "papers" "LDuskGates$Papers;" ∈ TB := tb_1 218 rfl rfl
theorem qf_X0_9 : Cond.fieldLink RX0 9 "DuskGates$Asks" "bodies" "[I" ∈ TB := tb_1 219 rfl rfl
theorem qf_X11_367 : Cond.fieldLink RX11 367 "DuskGates$Asks" "bodies" "[I" ∈ TB := tb_1 220 rfl rfl
theorem qf_X0_56 : Cond.fieldLink RX0 56 "DuskGates$Asks" "left" "I" ∈ TB := tb_1 221 rfl rfl
theorem qf_X11_358 : Cond.fieldLink RX11 358 "DuskGates$Asks" "left" "I" ∈ TB := tb_1 222 rfl rfl
theorem qf_X6_9 : Cond.fieldLink RX6 9 "DuskGates$Queues" "minutes" "[I" ∈ TB := tb_1 236 rfl rfl
theorem qf_X6_13 : Cond.fieldLink RX6 13 "DuskGates$Queues" "comers" "[I" ∈ TB := tb_1 237 rfl rfl
theorem qf_X6_25 : Cond.fieldLink RX6 25 "DuskGates$Queues" "arrivals" "I" ∈ TB := tb_1 238 rfl rfl
theorem qf_X6_16 : Cond.fieldLink RX6 16 "DuskGates$Queues" "freeAt" "[I" ∈ TB := tb_1 239 rfl rfl
theorem qf_X6_19 : Cond.fieldLink RX6 19 "DuskGates$Queues" "waits" "[I" ∈ TB := tb_2 0 rfl rfl
theorem qf_X6_22 : Cond.fieldLink RX6 22 "DuskGates$Queues" "best" "[I" ∈ TB := tb_2 1 rfl rfl
theorem qf_X11_294 : Cond.fieldLink RX11 294 "DuskGates$Queues" "best" "[I" ∈ TB := tb_2 2 rfl rfl
theorem qf_X6_33 : Cond.fieldLink RX6 33 "DuskGates$Queues" "leastWaited" "I" ∈ TB := tb_2 3 rfl rfl
theorem qf_X11_291 : Cond.fieldLink RX11 291 "DuskGates$Queues" "leastWaited" "I" ∈ TB := tb_2 4 rfl rfl
theorem qf_X9_11 : Cond.fieldLink RX9 11 "DuskGates$Sickness" "persons" "[I" ∈ TB := tb_2 26 rfl rfl
theorem qf_X9_15 : Cond.fieldLink RX9 15 "DuskGates$Sickness" "houses" "[I" ∈ TB := tb_2 27 rfl rfl
theorem qf_X9_18 : Cond.fieldLink RX9 18 "DuskGates$Sickness" "froms" "[I" ∈ TB := tb_2 28 rfl rfl
theorem qf_X9_21 : Cond.fieldLink RX9 21 "DuskGates$Sickness" "tos" "[I" ∈ TB := tb_2 29 rfl rfl
theorem qf_X9_27 : Cond.fieldLink RX9 27 "DuskGates$Sickness" "guests" "I" ∈ TB := tb_2 30 rfl rfl
theorem qf_X11_300 : Cond.fieldLink RX11 300 "DuskGates$Sickness" "guests" "I" ∈ TB := tb_2 31 rfl rfl
theorem qf_X9_24 : Cond.fieldLink RX9 24 "DuskGates$Sickness" "cases" "[I" ∈ TB := tb_2 32 rfl rfl
theorem qf_X10_9 : Cond.fieldLink RX10 9 "DuskGates$Wall" "heights" "[I" ∈ TB := tb_2 52 rfl rfl
theorem qf_X11_334 : Cond.fieldLink RX11 334 "DuskGates$Wall" "heights" "[I" ∈ TB := tb_2 53 rfl rfl
theorem qf_X10_15 : Cond.fieldLink RX10 15 "DuskGates$Wall" "insides" "[I" ∈ TB := tb_2 54 rfl rfl
theorem qf_X10_18 : Cond.fieldLink RX10 18 "DuskGates$Wall" "outsides" "[I" ∈ TB := tb_2 55 rfl rfl
theorem qf_X10_27 : Cond.fieldLink RX10 27 "DuskGates$Wall" "leaning" "I" ∈ TB := tb_2 56 rfl rfl
theorem qf_X11_337 : Cond.fieldLink RX11 337 "DuskGates$Wall" "leaning" "I" ∈ TB := tb_2 57 rfl rfl
theorem qf_X3_11 : Cond.fieldLink RX3 11 "DuskGates$Fewest" "covers" "[I" ∈ TB := tb_2 73 rfl rfl
theorem qf_X11_309 : Cond.fieldLink RX11 309 "DuskGates$Fewest" "covers" "[I" ∈ TB := tb_2 74 rfl rfl
theorem qf_X3_16 : Cond.fieldLink RX3 16 "DuskGates$Fewest" "least" "I" ∈ TB := tb_2 75 rfl rfl
theorem qf_X11_325 : Cond.fieldLink RX11 325 "DuskGates$Fewest" "least" "I" ∈ TB := tb_2 76 rfl rfl
theorem qf_X3_20 : Cond.fieldLink RX3 20 "DuskGates$Fewest" "sure" "I" ∈ TB := tb_2 77 rfl rfl
theorem qf_X11_328 : Cond.fieldLink RX11 328 "DuskGates$Fewest" "sure" "I" ∈ TB := tb_2 78 rfl rfl
theorem qf_X11_10 : Cond.fieldLink RX11 10 "DuskGates" "sheets" "LDuskGates$Sheets;" ∈ TB := tb_2 86 rfl rfl
theorem qf_X11_19 : Cond.fieldLink RX11 19 "DuskGates" "gates" "LDuskGates$Gates;" ∈ TB := tb_2 87 rfl rfl
theorem qf_X11_26 : Cond.fieldLink RX11 26 "DuskGates" "bylaws" "LDuskGates$ByLaws;" ∈ TB := tb_2 88 rfl rfl
theorem qf_X11_35 : Cond.fieldLink RX11 35 "DuskGates" "reader" "LDuskGates$Reader;" ∈ TB := tb_2 89 rfl rfl
theorem qf_X11_44 : Cond.fieldLink RX11 44 "DuskGates" "carts" "LDuskGates$Carts;" ∈ TB := tb_2 90 rfl rfl
theorem qf_X11_51 : Cond.fieldLink RX11 51 "DuskGates" "papers" "LDuskGates$Papers;" ∈ TB := tb_2 91 rfl rfl
theorem qf_X11_60 : Cond.fieldLink RX11 60 "DuskGates" "asks" "LDuskGates$Asks;" ∈ TB := tb_2 92 rfl rfl
theorem qf_X11_67 : Cond.fieldLink RX11 67 "DuskGates" "queues" "LDuskGates$Queues;" ∈ TB := tb_2 93 rfl rfl
theorem qf_X11_74 : Cond.fieldLink RX11 74 "DuskGates" "sickness" "LDuskGates$Sickness;" ∈ TB := tb_2 94 rfl rfl
theorem qf_X11_81 : Cond.fieldLink RX11 81 "DuskGates" "wall" "LDuskGates$Wall;" ∈ TB := tb_2 95 rfl rfl
theorem qf_X11_88 : Cond.fieldLink RX11 88 "DuskGates" "fewest" "LDuskGates$Fewest;" ∈ TB := tb_2 96 rfl rfl
theorem qf_X11_346 : Cond.fieldLink RX11 346 "DuskGates" "theDay" "I" ∈ TB := tb_2 97 rfl rfl
theorem qf_X11_381 : Cond.fieldLink RX11 381 "DuskGates" "finding" "I" ∈ TB := tb_2 98 rfl rfl
theorem qf_J0_38 : Cond.fieldLink RJ0 38 "java/lang/String" "COMPACT_STRINGS" "Z" ∈ TB := tb_3 34 rfl rfl
theorem qf_J0_1053 : Cond.fieldLink RJ0 1053 "jdk/internal/util/Preconditions" "SIOOBE_FORMATTER" "Ljava/util/function/BiFunction;" ∈ TB := tb_3 50 rfl rfl
theorem qf_J2_44 : Cond.fieldLink RJ2 44 "java/lang/StringUTF16" "$assertionsDisabled" "Z" ∈ TB := tb_3 68 rfl rfl
theorem qf_J2_59 : Cond.fieldLink RJ2 59 "java/lang/StringUTF16" "HI_BYTE_SHIFT" "I" ∈ TB := tb_3 70 rfl rfl
theorem qf_J2_63 : Cond.fieldLink RJ2 63 "java/lang/StringUTF16" "LO_BYTE_SHIFT" "I" ∈ TB := tb_3 72 rfl rfl
theorem qf_X7_70 : Cond.fieldLink RX7 70 "DuskGates$Reader" "HIGHEST_FIRST" "[I" ∈ TB := tb_3 101 rfl rfl
theorem qf_X7_73 : Cond.fieldLink RX7 73 "DuskGates$Reader" "TOPIC" "[I" ∈ TB := tb_3 103 rfl rfl
theorem qf_X11_258 : Cond.fieldLink RX11 258 "DuskGates$Papers" "HIGHEST" "[I" ∈ TB := tb_4 16 rfl rfl
theorem qf_X12_1 : Cond.fieldLink RX12 1 "DuskGatesModel" "thrown" "I" ∈ TB := tb_5 52 rfl rfl
theorem qf_X12_7 : Cond.fieldLink RX12 7 "DuskGatesModel" "status" "I" ∈ TB := tb_5 53 rfl rfl
theorem qf_X12_17 : Cond.fieldLink RX12 17 "DuskGatesModel" "lane" "[I" ∈ TB := tb_5 54 rfl rfl
theorem qf_X12_21 : Cond.fieldLink RX12 21 "DuskGatesModel" "many" "[I" ∈ TB := tb_5 55 rfl rfl
theorem qf_X12_24 : Cond.fieldLink RX12 24 "DuskGatesModel" "item" "[I" ∈ TB := tb_5 56 rfl rfl
theorem qf_X12_27 : Cond.fieldLink RX12 27 "DuskGatesModel" "opens" "[I" ∈ TB := tb_5 57 rfl rfl
theorem qf_X12_30 : Cond.fieldLink RX12 30 "DuskGatesModel" "shuts" "[I" ∈ TB := tb_5 58 rfl rfl
theorem qf_X12_33 : Cond.fieldLink RX12 33 "DuskGatesModel" "share" "[I" ∈ TB := tb_5 59 rfl rfl
theorem qf_X12_36 : Cond.fieldLink RX12 36 "DuskGatesModel" "gateX" "[I" ∈ TB := tb_5 60 rfl rfl
theorem qf_X12_39 : Cond.fieldLink RX12 39 "DuskGatesModel" "gateY" "[I" ∈ TB := tb_5 61 rfl rfl
theorem qf_X12_242 : Cond.fieldLink RX12 242 "DuskGatesModel" "laws" "I" ∈ TB := tb_5 62 rfl rfl
theorem qf_X12_42 : Cond.fieldLink RX12 42 "DuskGatesModel" "lawDay" "[I" ∈ TB := tb_5 63 rfl rfl
theorem qf_X12_45 : Cond.fieldLink RX12 45 "DuskGatesModel" "lawWhat" "[I" ∈ TB := tb_5 64 rfl rfl
theorem qf_X12_48 : Cond.fieldLink RX12 48 "DuskGatesModel" "lawOf" "[I" ∈ TB := tb_5 65 rfl rfl
theorem qf_X12_51 : Cond.fieldLink RX12 51 "DuskGatesModel" "lawNumber" "[I" ∈ TB := tb_5 66 rfl rfl
theorem qf_X12_236 : Cond.fieldLink RX12 236 "DuskGatesModel" "newLaws" "I" ∈ TB := tb_5 67 rfl rfl
theorem qf_X12_54 : Cond.fieldLink RX12 54 "DuskGatesModel" "tape" "[I" ∈ TB := tb_5 68 rfl rfl
theorem qf_X12_167 : Cond.fieldLink RX12 167 "DuskGatesModel" "taped" "I" ∈ TB := tb_5 69 rfl rfl
theorem qf_X12_250 : Cond.fieldLink RX12 250 "DuskGatesModel" "latest" "I" ∈ TB := tb_5 70 rfl rfl
theorem qf_X12_173 : Cond.fieldLink RX12 173 "DuskGatesModel" "size" "I" ∈ TB := tb_5 71 rfl rfl
theorem qf_X12_176 : Cond.fieldLink RX12 176 "DuskGatesModel" "cursor" "I" ∈ TB := tb_5 72 rfl rfl
theorem qf_X12_185 : Cond.fieldLink RX12 185 "DuskGatesModel" "token" "I" ∈ TB := tb_5 73 rfl rfl
theorem qf_X12_182 : Cond.fieldLink RX12 182 "DuskGatesModel" "from" "I" ∈ TB := tb_5 74 rfl rfl
theorem qf_X12_194 : Cond.fieldLink RX12 194 "DuskGatesModel" "till" "I" ∈ TB := tb_5 75 rfl rfl
theorem qf_X12_197 : Cond.fieldLink RX12 197 "DuskGatesModel" "fault" "I" ∈ TB := tb_5 76 rfl rfl
theorem qf_X12_200 : Cond.fieldLink RX12 200 "DuskGatesModel" "faultAt" "I" ∈ TB := tb_5 77 rfl rfl
theorem qf_X12_287 : Cond.fieldLink RX12 287 "DuskGatesModel" "carts" "I" ∈ TB := tb_5 78 rfl rfl
theorem qf_X12_57 : Cond.fieldLink RX12 57 "DuskGatesModel" "load" "[I" ∈ TB := tb_5 79 rfl rfl
theorem qf_X12_305 : Cond.fieldLink RX12 305 "DuskGatesModel" "passings" "I" ∈ TB := tb_5 80 rfl rfl
theorem qf_X12_60 : Cond.fieldLink RX12 60 "DuskGatesModel" "passCart" "[I" ∈ TB := tb_5 81 rfl rfl
theorem qf_X12_63 : Cond.fieldLink RX12 63 "DuskGatesModel" "passIn" "[I" ∈ TB := tb_5 82 rfl rfl
theorem qf_X12_66 : Cond.fieldLink RX12 66 "DuskGatesModel" "passGate" "[I" ∈ TB := tb_5 83 rfl rfl
theorem qf_X12_69 : Cond.fieldLink RX12 69 "DuskGatesModel" "passAt" "[I" ∈ TB := tb_5 84 rfl rfl
theorem qf_X12_72 : Cond.fieldLink RX12 72 "DuskGatesModel" "passPaid" "[I" ∈ TB := tb_5 85 rfl rfl
theorem qf_X12_308 : Cond.fieldLink RX12 308 "DuskGatesModel" "wrong" "I" ∈ TB := tb_5 86 rfl rfl
theorem qf_X12_311 : Cond.fieldLink RX12 311 "DuskGatesModel" "inside" "I" ∈ TB := tb_5 87 rfl rfl
theorem qf_X12_314 : Cond.fieldLink RX12 314 "DuskGatesModel" "lost" "I" ∈ TB := tb_5 88 rfl rfl
theorem qf_X12_75 : Cond.fieldLink RX12 75 "DuskGatesModel" "roads" "[I" ∈ TB := tb_5 89 rfl rfl
theorem qf_X12_330 : Cond.fieldLink RX12 330 "DuskGatesModel" "sicks" "I" ∈ TB := tb_5 90 rfl rfl
theorem qf_X12_78 : Cond.fieldLink RX12 78 "DuskGatesModel" "sickTown" "[I" ∈ TB := tb_5 91 rfl rfl
theorem qf_X12_81 : Cond.fieldLink RX12 81 "DuskGatesModel" "sickFrom" "[I" ∈ TB := tb_5 92 rfl rfl
theorem qf_X12_84 : Cond.fieldLink RX12 84 "DuskGatesModel" "sickTo" "[I" ∈ TB := tb_5 93 rfl rfl
theorem qf_X12_333 : Cond.fieldLink RX12 333 "DuskGatesModel" "passes" "I" ∈ TB := tb_5 94 rfl rfl
theorem qf_X12_87 : Cond.fieldLink RX12 87 "DuskGatesModel" "paper" "[I" ∈ TB := tb_5 95 rfl rfl
theorem qf_X12_347 : Cond.fieldLink RX12 347 "DuskGatesModel" "theDay" "I" ∈ TB := tb_5 96 rfl rfl
theorem qf_X12_90 : Cond.fieldLink RX12 90 "DuskGatesModel" "free" "[I" ∈ TB := tb_5 97 rfl rfl
theorem qf_X12_93 : Cond.fieldLink RX12 93 "DuskGatesModel" "bestClerks" "[I" ∈ TB := tb_5 98 rfl rfl
theorem qf_X12_96 : Cond.fieldLink RX12 96 "DuskGatesModel" "waits" "[I" ∈ TB := tb_5 99 rfl rfl
theorem qf_X12_363 : Cond.fieldLink RX12 363 "DuskGatesModel" "guests" "I" ∈ TB := tb_5 100 rfl rfl
theorem qf_X12_99 : Cond.fieldLink RX12 99 "DuskGatesModel" "guestPerson" "[I" ∈ TB := tb_5 101 rfl rfl
theorem qf_X12_102 : Cond.fieldLink RX12 102 "DuskGatesModel" "guestHouse" "[I" ∈ TB := tb_5 102 rfl rfl
theorem qf_X12_105 : Cond.fieldLink RX12 105 "DuskGatesModel" "guestFrom" "[I" ∈ TB := tb_5 103 rfl rfl
theorem qf_X12_108 : Cond.fieldLink RX12 108 "DuskGatesModel" "guestTo" "[I" ∈ TB := tb_5 104 rfl rfl
theorem qf_X12_111 : Cond.fieldLink RX12 111 "DuskGatesModel" "fellOn" "[I" ∈ TB := tb_5 105 rfl rfl
theorem qf_X12_114 : Cond.fieldLink RX12 114 "DuskGatesModel" "high" "[I" ∈ TB := tb_5 106 rfl rfl
theorem qf_X12_375 : Cond.fieldLink RX12 375 "DuskGatesModel" "leans" "I" ∈ TB := tb_5 107 rfl rfl
theorem qf_X12_117 : Cond.fieldLink RX12 117 "DuskGatesModel" "leanLength" "[I" ∈ TB := tb_5 108 rfl rfl
theorem qf_X12_120 : Cond.fieldLink RX12 120 "DuskGatesModel" "leanInside" "[I" ∈ TB := tb_5 109 rfl rfl
theorem qf_X12_123 : Cond.fieldLink RX12 123 "DuskGatesModel" "leanOutside" "[I" ∈ TB := tb_5 110 rfl rfl
theorem qf_X12_126 : Cond.fieldLink RX12 126 "DuskGatesModel" "trace" "[I" ∈ TB := tb_5 111 rfl rfl
theorem qf_X12_391 : Cond.fieldLink RX12 391 "DuskGatesModel" "traced" "I" ∈ TB := tb_5 112 rfl rfl
theorem qf_J0_9 : Cond.fieldLink RJ0 9 "java/lang/String" "value" "[B" ∈ TB := tb_7 100 rfl rfl
theorem qf_J0_15 : Cond.fieldLink RJ0 15 "java/lang/String" "coder" "B" ∈ TB := tb_7 101 rfl rfl
theorem qm_L_9 : Cond.methodLink RL 9 yX11_init ∈ TB := tb_1 23 rfl rfl
theorem qm_X11_1 : Cond.methodLink RX11 1 (⟨"java/lang/Object", "<init>", "()V"⟩ : MethodName) ∈ TB := tb_1 26 rfl rfl
theorem qm_X11_9 : Cond.methodLink RX11 9 yX8_init ∈ TB := tb_1 31 rfl rfl
theorem qm_X8_1 : Cond.methodLink RX8 1 (⟨"java/lang/Object", "<init>", "()V"⟩ : MethodName) ∈ TB := tb_1 34 rfl rfl
theorem qm_X11_18 : Cond.methodLink RX11 18 yX4_init ∈ TB := tb_1 48 rfl rfl
theorem qm_X4_3 : Cond.methodLink RX4 3 (⟨"java/lang/Object", "<init>", "()V"⟩ : MethodName) ∈ TB := tb_1 51 rfl rfl
theorem qm_X1_3 : Cond.methodLink RX1 3 (⟨"java/lang/Object", "<init>", "()V"⟩ : MethodName) ∈ TB := tb_1 79 rfl rfl
theorem qm_X11_32 : Cond.methodLink RX11 32 yX7_init ∈ TB := tb_1 99 rfl rfl
theorem qm_X7_3 : Cond.methodLink RX7 3 (⟨"java/lang/Object", "<init>", "()V"⟩ : MethodName) ∈ TB := tb_1 102 rfl rfl
theorem qm_X11_41 : Cond.methodLink RX11 41 yX2_init ∈ TB := tb_1 136 rfl rfl
theorem qm_X2_3 : Cond.methodLink RX2 3 (⟨"java/lang/Object", "<init>", "()V"⟩ : MethodName) ∈ TB := tb_1 139 rfl rfl
theorem qm_X11_50 : Cond.methodLink RX11 50 yX5_init ∈ TB := tb_1 175 rfl rfl
theorem qm_X5_3 : Cond.methodLink RX5 3 (⟨"java/lang/Object", "<init>", "()V"⟩ : MethodName) ∈ TB := tb_1 178 rfl rfl
theorem qm_X11_57 : Cond.methodLink RX11 57 yX0_init ∈ TB := tb_1 214 rfl rfl
theorem qm_X0_1 : Cond.methodLink RX0 1 (⟨"java/lang/Object", "<init>", "()V"⟩ : MethodName) ∈ TB := tb_1 217 rfl rfl
theorem qm_X6_3 : Cond.methodLink RX6 3 (⟨"java/lang/Object", "<init>", "()V"⟩ : MethodName) ∈ TB := tb_1 235 rfl rfl
theorem qm_X11_73 : Cond.methodLink RX11 73 yX9_init ∈ TB := tb_2 22 rfl rfl
theorem qm_X9_3 : Cond.methodLink RX9 3 (⟨"java/lang/Object", "<init>", "()V"⟩ : MethodName) ∈ TB := tb_2 25 rfl rfl
theorem qm_X11_80 : Cond.methodLink RX11 80 yX10_init ∈ TB := tb_2 48 rfl rfl
theorem qm_X10_3 : Cond.methodLink RX10 3 (⟨"java/lang/Object", "<init>", "()V"⟩ : MethodName) ∈ TB := tb_2 51 rfl rfl
theorem qm_X3_3 : Cond.methodLink RX3 3 (⟨"java/lang/Object", "<init>", "()V"⟩ : MethodName) ∈ TB := tb_2 72 rfl rfl
theorem qm_L_13 : Cond.methodLink RL 13 yX11_sheet ∈ TB := tb_2 126 rfl rfl
theorem qm_X11_92 : Cond.methodLink RX11 92 yX11_isSheet ∈ TB := tb_2 130 rfl rfl
theorem qm_X11_96 : Cond.methodLink RX11 96 yX11_within ∈ TB := tb_2 133 rfl rfl
theorem qm_X11_101 : Cond.methodLink RX11 101 yX11_found ∈ TB := tb_2 137 rfl rfl
theorem qm_X11_105 : Cond.methodLink RX11 105 yX8_lay ∈ TB := tb_2 142 rfl rfl
theorem qm_X11_109 : Cond.methodLink RX11 109 yX11_fine ∈ TB := tb_2 146 rfl rfl
theorem qm_L_18 : Cond.methodLink RL 18 yX11_set ∈ TB := tb_2 150 rfl rfl
theorem qm_X11_112 : Cond.methodLink RX11 112 yX11_flawOf ∈ TB := tb_2 154 rfl rfl
theorem qm_X11_119 : Cond.methodLink RX11 119 yX8_isMissing ∈ TB := tb_2 158 rfl rfl
theorem qm_X11_125 : Cond.methodLink RX11 125 yX8_hasPlaces ∈ TB := tb_2 162 rfl rfl
theorem qm_X11_116 : Cond.methodLink RX11 116 yX8_put ∈ TB := tb_2 166 rfl rfl
theorem qm_X8_19 : Cond.methodLink RX8 19 yX8_cutTo ∈ TB := tb_2 170 rfl rfl
theorem qm_L_22 : Cond.methodLink RL 22 yX11_copy ∈ TB := tb_2 173 rfl rfl
theorem qm_X11_122 : Cond.methodLink RX11 122 yX8_laneOf ∈ TB := tb_2 177 rfl rfl
theorem qm_X11_128 : Cond.methodLink RX11 128 yX8_move ∈ TB := tb_2 181 rfl rfl
theorem qm_X8_23 : Cond.methodLink RX8 23 (⟨"java/lang/System", "arraycopy", "(Ljava/lang/Object;ILjava/lang/Object;II)V"⟩ : MethodName) ∈ TB := tb_2 185 rfl rfl
theorem qm_L_27 : Cond.methodLink RL 27 yX11_drop ∈ TB := tb_2 188 rfl rfl
theorem qm_X11_132 : Cond.methodLink RX11 132 yX8_takeAway ∈ TB := tb_2 192 rfl rfl
theorem qm_L_32 : Cond.methodLink RL 32 yX11_bell ∈ TB := tb_2 196 rfl rfl
theorem qm_X11_135 : Cond.methodLink RX11 135 yX11_isGate ∈ TB := tb_2 200 rfl rfl
theorem qm_L_36 : Cond.methodLink RL 36 yX11_part ∈ TB := tb_2 203 rfl rfl
theorem qm_L_41 : Cond.methodLink RL 41 yX11_stands ∈ TB := tb_2 207 rfl rfl
theorem qm_X11_148 : Cond.methodLink RX11 148 yX11_isPlace ∈ TB := tb_2 211 rfl rfl
theorem qm_L_47 : Cond.methodLink RL 47 yX11_feed ∈ TB := tb_2 214 rfl rfl
theorem qm_X11_158 : Cond.methodLink RX11 158 yX7_hasRoom ∈ TB := tb_2 218 rfl rfl
theorem qm_X11_162 : Cond.methodLink RX11 162 yX7_append ∈ TB := tb_2 223 rfl rfl
theorem qm_L_52 : Cond.methodLink RL 52 yX11_laws ∈ TB := tb_2 227 rfl rfl
theorem qm_X11_170 : Cond.methodLink RX11 170 yX7_readTape ∈ TB := tb_2 231 rfl rfl
theorem qm_X7_26 : Cond.methodLink RX7 26 yX1_beginDraft ∈ TB := tb_2 235 rfl rfl
theorem qm_X7_31 : Cond.methodLink RX7 31 yX7_nextToken ∈ TB := tb_2 239 rfl rfl
theorem qm_X7_111 : Cond.methodLink RX7 111 yX7_isLetter ∈ TB := tb_3 3 rfl rfl
theorem qm_X7_114 : Cond.methodLink RX7 114 yX7_readName ∈ TB := tb_3 6 rfl rfl
theorem qm_X7_117 : Cond.methodLink RX7 117 yX7_isFigure ∈ TB := tb_3 10 rfl rfl
theorem qm_X7_120 : Cond.methodLink RX7 120 yX7_readNumber ∈ TB := tb_3 13 rfl rfl
theorem qm_X7_37 : Cond.methodLink RX7 37 yX7_readSection ∈ TB := tb_3 17 rfl rfl
theorem qm_X7_46 : Cond.methodLink RX7 46 yX7_spells ∈ TB := tb_3 22 rfl rfl
theorem qm_X7_103 : Cond.methodLink RX7 103 yJ0_length_8abf5 ∈ TB := tb_3 26 rfl rfl
theorem qm_J0_335 : Cond.methodLink RJ0 335 yJ0_coder_7d493 ∈ TB := tb_3 30 rfl rfl
theorem qm_X7_107 : Cond.methodLink RX7 107 yJ0_charAt_5068e ∈ TB := tb_3 36 rfl rfl
theorem qm_J0_492 : Cond.methodLink RJ0 492 yJ0_isLatin1_aae02 ∈ TB := tb_3 40 rfl rfl
theorem qm_J0_495 : Cond.methodLink RJ0 495 yJ1_charAt_3b067 ∈ TB := tb_3 44 rfl rfl
theorem qm_J1_9 : Cond.methodLink RJ1 9 yJ0_checkIndex_df160 ∈ TB := tb_3 47 rfl rfl
theorem qm_J0_1059 : Cond.methodLink RJ0 1059 yJ3_checkIndex_8e157 ∈ TB := tb_3 52 rfl rfl
theorem qm_J0_498 : Cond.methodLink RJ0 498 yJ2_charAt_3b067 ∈ TB := tb_3 55 rfl rfl
theorem qm_J2_67 : Cond.methodLink RJ2 67 yJ2_checkIndex_2214a ∈ TB := tb_3 58 rfl rfl
theorem qm_J2_48 : Cond.methodLink RJ2 48 yJ2_length_9d52b ∈ TB := tb_3 61 rfl rfl
theorem qm_J2_414 : Cond.methodLink RJ2 414 yJ0_checkIndex_df160 ∈ TB := tb_3 64 rfl rfl
theorem qm_J2_71 : Cond.methodLink RJ2 71 yJ2_getChar_3b067 ∈ TB := tb_3 65 rfl rfl
theorem qm_X7_50 : Cond.methodLink RX7 50 yX7_blame ∈ TB := tb_3 74 rfl rfl
theorem qm_X7_54 : Cond.methodLink RX7 54 yX7_isNumberUpTo ∈ TB := tb_3 78 rfl rfl
theorem qm_X7_60 : Cond.methodLink RX7 60 yX7_readLaw ∈ TB := tb_3 82 rfl rfl
theorem qm_X7_63 : Cond.methodLink RX7 63 yX7_lawWord ∈ TB := tb_3 86 rfl rfl
theorem qm_X7_67 : Cond.methodLink RX7 67 yX1_isDraftFull ∈ TB := tb_3 97 rfl rfl
theorem qm_X7_76 : Cond.methodLink RX7 76 yX1_draft ∈ TB := tb_3 105 rfl rfl
theorem qm_X7_41 : Cond.methodLink RX7 41 yX1_passDraft ∈ TB := tb_3 109 rfl rfl
theorem qm_L_57 : Cond.methodLink RL 57 yX11_fault ∈ TB := tb_3 115 rfl rfl
theorem qm_L_61 : Cond.methodLink RL 61 yX11_holds ∈ TB := tb_3 119 rfl rfl
theorem qm_X11_184 : Cond.methodLink RX11 184 yX11_isDay ∈ TB := tb_3 123 rfl rfl
theorem qm_X11_187 : Cond.methodLink RX11 187 yX1_isTopic ∈ TB := tb_3 126 rfl rfl
theorem qm_X11_190 : Cond.methodLink RX11 190 yX1_inForce ∈ TB := tb_3 130 rfl rfl
theorem qm_L_65 : Cond.methodLink RL 65 yX11_cart ∈ TB := tb_3 134 rfl rfl
theorem qm_X11_196 : Cond.methodLink RX11 196 yX8_itemAt ∈ TB := tb_3 138 rfl rfl
theorem qm_X11_199 : Cond.methodLink RX11 199 yX2_addCart ∈ TB := tb_3 142 rfl rfl
theorem qm_X2_42 : Cond.methodLink RX2 42 yX8_itemAt ∈ TB := tb_3 146 rfl rfl
theorem qm_L_69 : Cond.methodLink RL 69 yX11_owed ∈ TB := tb_3 147 rfl rfl
theorem qm_X11_203 : Cond.methodLink RX11 203 yX11_isCart ∈ TB := tb_3 151 rfl rfl
theorem qm_X11_207 : Cond.methodLink RX11 207 yX2_leastGate ∈ TB := tb_3 156 rfl rfl
theorem qm_X2_48 : Cond.methodLink RX2 48 yX2_wholeToll ∈ TB := tb_3 160 rfl rfl
theorem qm_X2_58 : Cond.methodLink RX2 58 yX1_inForce ∈ TB := tb_3 164 rfl rfl
theorem qm_X11_210 : Cond.methodLink RX11 210 yX2_owedAt ∈ TB := tb_3 165 rfl rfl
theorem qm_L_73 : Cond.methodLink RL 73 yX11_pass ∈ TB := tb_3 169 rfl rfl
theorem qm_X11_213 : Cond.methodLink RX11 213 yX11_isMinute ∈ TB := tb_3 173 rfl rfl
theorem qm_X11_220 : Cond.methodLink RX11 220 yX2_addPassing ∈ TB := tb_3 177 rfl rfl
theorem qm_X2_64 : Cond.methodLink RX2 64 yX2_shiftOn ∈ TB := tb_3 181 rfl rfl
theorem qm_L_78 : Cond.methodLink RL 78 yX11_agree ∈ TB := tb_3 185 rfl rfl
theorem qm_X11_224 : Cond.methodLink RX11 224 yX2_wrongPassings ∈ TB := tb_3 189 rfl rfl
theorem qm_X2_68 : Cond.methodLink RX2 68 yX4_isOpen ∈ TB := tb_3 193 rfl rfl
theorem qm_X2_72 : Cond.methodLink RX2 72 yX2_afterPassing ∈ TB := tb_3 197 rfl rfl
theorem qm_X11_228 : Cond.methodLink RX11 228 yX2_cartsInside ∈ TB := tb_3 201 rfl rfl
theorem qm_X2_75 : Cond.methodLink RX2 75 yJ6_bitCount_0f7a4 ∈ TB := tb_3 205 rfl rfl
theorem qm_X11_231 : Cond.methodLink RX11 231 yX2_lostCarts ∈ TB := tb_3 211 rfl rfl
theorem qm_L_82 : Cond.methodLink RL 82 yX11_amiss ∈ TB := tb_3 215 rfl rfl
theorem qm_X11_234 : Cond.methodLink RX11 234 yX11_areDays ∈ TB := tb_3 219 rfl rfl
theorem qm_X11_237 : Cond.methodLink RX11 237 yX2_shortOf ∈ TB := tb_3 222 rfl rfl
theorem qm_X2_86 : Cond.methodLink RX2 86 yX2_owedAt ∈ TB := tb_3 228 rfl rfl
theorem qm_L_86 : Cond.methodLink RL 86 yX11_road ∈ TB := tb_3 229 rfl rfl
theorem qm_X11_240 : Cond.methodLink RX11 240 yX11_isTown ∈ TB := tb_3 233 rfl rfl
theorem qm_X11_243 : Cond.methodLink RX11 243 yX5_layRoadToGates ∈ TB := tb_3 236 rfl rfl
theorem qm_X11_246 : Cond.methodLink RX11 246 yX5_layRoad ∈ TB := tb_4 0 rfl rfl
theorem qm_L_90 : Cond.methodLink RL 90 yX11_sick ∈ TB := tb_4 4 rfl rfl
theorem qm_X11_252 : Cond.methodLink RX11 252 yX5_addSick ∈ TB := tb_4 8 rfl rfl
theorem qm_L_94 : Cond.methodLink RL 94 yX11_seal ∈ TB := tb_4 12 rfl rfl
theorem qm_X11_261 : Cond.methodLink RX11 261 yX5_addPass ∈ TB := tb_4 18 rfl rfl
theorem qm_X5_45 : Cond.methodLink RX5 45 yX8_itemAt ∈ TB := tb_4 22 rfl rfl
theorem qm_L_98 : Cond.methodLink RL 98 yX11_canbe ∈ TB := tb_4 23 rfl rfl
theorem qm_X11_264 : Cond.methodLink RX11 264 yX11_isPerson ∈ TB := tb_4 27 rfl rfl
theorem qm_X11_267 : Cond.methodLink RX11 267 yX5_canBeTrue ∈ TB := tb_4 30 rfl rfl
theorem qm_X5_51 : Cond.methodLink RX5 51 yX5_itemOf ∈ TB := tb_4 34 rfl rfl
theorem qm_X5_54 : Cond.methodLink RX5 54 yX5_areFarEnough ∈ TB := tb_4 38 rfl rfl
theorem qm_X5_58 : Cond.methodLink RX5 58 yJ9_abs_0f7a4 ∈ TB := tb_4 42 rfl rfl
theorem qm_L_102 : Cond.methodLink RL 102 yX11_lets ∈ TB := tb_4 45 rfl rfl
theorem qm_X11_270 : Cond.methodLink RX11 270 yX11_isPass ∈ TB := tb_4 49 rfl rfl
theorem qm_X11_273 : Cond.methodLink RX11 273 yX5_letsIn ∈ TB := tb_4 53 rfl rfl
theorem qm_X5_66 : Cond.methodLink RX5 66 yX1_inForce ∈ TB := tb_4 57 rfl rfl
theorem qm_X5_69 : Cond.methodLink RX5 69 yX5_isForged ∈ TB := tb_4 58 rfl rfl
theorem qm_X5_84 : Cond.methodLink RX5 84 yX5_wasSick ∈ TB := tb_4 62 rfl rfl
theorem qm_X5_87 : Cond.methodLink RX5 87 yX5_isSealOfOtherHand ∈ TB := tb_4 67 rfl rfl
theorem qm_X5_72 : Cond.methodLink RX5 72 yX4_isOpen ∈ TB := tb_4 71 rfl rfl
theorem qm_L_107 : Cond.methodLink RL 107 yX11_dusk ∈ TB := tb_4 72 rfl rfl
theorem qm_X11_277 : Cond.methodLink RX11 277 yX4_firstIn ∈ TB := tb_4 76 rfl rfl
theorem qm_X4_28 : Cond.methodLink RX4 28 yJ9_abs_0f7a4 ∈ TB := tb_4 81 rfl rfl
theorem qm_X4_34 : Cond.methodLink RX4 34 yJ9_max_7cf53 ∈ TB := tb_4 82 rfl rfl
theorem qm_L_111 : Cond.methodLink RL 111 yX11_clerks ∈ TB := tb_4 85 rfl rfl
theorem qm_X11_281 : Cond.methodLink RX11 281 yX6_clear ∈ TB := tb_4 89 rfl rfl
theorem qm_X11_284 : Cond.methodLink RX11 284 yX6_comes ∈ TB := tb_4 93 rfl rfl
theorem qm_X11_288 : Cond.methodLink RX11 288 yX6_shareOut ∈ TB := tb_4 97 rfl rfl
theorem qm_X6_29 : Cond.methodLink RX6 29 yX6_waitedAt ∈ TB := tb_4 101 rfl rfl
theorem qm_X6_40 : Cond.methodLink RX6 40 yX6_firstFree ∈ TB := tb_4 105 rfl rfl
theorem qm_X6_44 : Cond.methodLink RX6 44 yJ9_max_7cf53 ∈ TB := tb_4 109 rfl rfl
theorem qm_X6_36 : Cond.methodLink RX6 36 yX6_tryWay ∈ TB := tb_4 110 rfl rfl
theorem qm_L_115 : Cond.methodLink RL 115 yX11_guest ∈ TB := tb_4 114 rfl rfl
theorem qm_X11_297 : Cond.methodLink RX11 297 yX11_isHouse ∈ TB := tb_4 118 rfl rfl
theorem qm_X11_303 : Cond.methodLink RX11 303 yX9_addGuest ∈ TB := tb_4 121 rfl rfl
theorem qm_L_119 : Cond.methodLink RL 119 yX11_fell ∈ TB := tb_4 125 rfl rfl
theorem qm_X11_306 : Cond.methodLink RX11 306 yX9_addCase ∈ TB := tb_4 129 rfl rfl
theorem qm_L_123 : Cond.methodLink RL 123 yX11_brought ∈ TB := tb_4 133 rfl rfl
theorem qm_X11_312 : Cond.methodLink RX11 312 yX9_tellWhoMay ∈ TB := tb_4 137 rfl rfl
theorem qm_X11_316 : Cond.methodLink RX11 316 yX3_anyUse ∈ TB := tb_4 141 rfl rfl
theorem qm_X11_319 : Cond.methodLink RX11 319 yX9_housesWithCases ∈ TB := tb_4 145 rfl rfl
theorem qm_X11_322 : Cond.methodLink RX11 322 yX3_search ∈ TB := tb_4 149 rfl rfl
theorem qm_X3_23 : Cond.methodLink RX3 23 yX3_doCover ∈ TB := tb_4 154 rfl rfl
theorem qm_X3_27 : Cond.methodLink RX3 27 yJ6_bitCount_0f7a4 ∈ TB := tb_4 158 rfl rfl
theorem qm_L_127 : Cond.methodLink RL 127 yX11_high ∈ TB := tb_4 159 rfl rfl
theorem qm_X11_331 : Cond.methodLink RX11 331 yX11_isLength ∈ TB := tb_4 163 rfl rfl
theorem qm_L_131 : Cond.methodLink RL 131 yX11_lean ∈ TB := tb_4 166 rfl rfl
theorem qm_X11_340 : Cond.methodLink RX11 340 yX10_addHouse ∈ TB := tb_4 170 rfl rfl
theorem qm_X10_21 : Cond.methodLink RX10 21 yJ9_max_7cf53 ∈ TB := tb_4 174 rfl rfl
theorem qm_L_135 : Cond.methodLink RL 135 yX11_breaches ∈ TB := tb_4 175 rfl rfl
theorem qm_X11_343 : Cond.methodLink RX11 343 yX10_passable ∈ TB := tb_4 179 rfl rfl
theorem qm_L_139 : Cond.methodLink RL 139 yX11_watch ∈ TB := tb_4 183 rfl rfl
theorem qm_L_143 : Cond.methodLink RL 143 yX11_day ∈ TB := tb_4 187 rfl rfl
theorem qm_L_147 : Cond.methodLink RL 147 yX11_kind ∈ TB := tb_4 191 rfl rfl
theorem qm_X11_349 : Cond.methodLink RX11 349 yX5_kindOn ∈ TB := tb_4 195 rfl rfl
theorem qm_L_151 : Cond.methodLink RL 151 yX11_as ∈ TB := tb_4 199 rfl rfl
theorem qm_X11_352 : Cond.methodLink RX11 352 yX5_isOfKind ∈ TB := tb_4 203 rfl rfl
theorem qm_X5_77 : Cond.methodLink RX5 77 yX5_kindOn ∈ TB := tb_4 207 rfl rfl
theorem qm_X11_355 : Cond.methodLink RX11 355 yX5_itemOf ∈ TB := tb_4 208 rfl rfl
theorem qm_L_155 : Cond.methodLink RL 155 yX11_ask ∈ TB := tb_4 209 rfl rfl
theorem qm_X11_361 : Cond.methodLink RX11 361 yX0_sizeOf ∈ TB := tb_4 213 rfl rfl
theorem qm_X0_17 : Cond.methodLink RX0 17 yX0_tollSize ∈ TB := tb_4 217 rfl rfl
theorem qm_X0_46 : Cond.methodLink RX0 46 yX0_leave ∈ TB := tb_4 221 rfl rfl
theorem qm_X0_31 : Cond.methodLink RX0 31 yX0_lentSize ∈ TB := tb_4 225 rfl rfl
theorem qm_X0_52 : Cond.methodLink RX0 52 yX5_itemOf ∈ TB := tb_4 229 rfl rfl
theorem qm_X0_21 : Cond.methodLink RX0 21 yX0_healthSize ∈ TB := tb_4 230 rfl rfl
theorem qm_X0_37 : Cond.methodLink RX0 37 yX0_forgedMark ∈ TB := tb_4 234 rfl rfl
theorem qm_X0_34 : Cond.methodLink RX0 34 yX0_healthMark ∈ TB := tb_4 238 rfl rfl
theorem qm_X0_43 : Cond.methodLink RX0 43 yX0_lentMark ∈ TB := tb_5 2 rfl rfl
theorem qm_X0_25 : Cond.methodLink RX0 25 yX0_forgedSize ∈ TB := tb_5 6 rfl rfl
theorem qm_X0_28 : Cond.methodLink RX0 28 yX0_nightSize ∈ TB := tb_5 10 rfl rfl
theorem qm_X11_364 : Cond.methodLink RX11 364 yX0_markOf ∈ TB := tb_5 14 rfl rfl
theorem qm_X0_40 : Cond.methodLink RX0 40 yX0_nightMark ∈ TB := tb_5 18 rfl rfl
theorem qm_L_159 : Cond.methodLink RL 159 yX11_trace ∈ TB := tb_5 22 rfl rfl
theorem qm_L_163 : Cond.methodLink RL 163 yX11_count ∈ TB := tb_5 26 rfl rfl
theorem qm_X11_370 : Cond.methodLink RX11 370 yX8_present ∈ TB := tb_5 30 rfl rfl
theorem qm_X8_29 : Cond.methodLink RX8 29 yX8_isMissing ∈ TB := tb_5 34 rfl rfl
theorem qm_X11_373 : Cond.methodLink RX11 373 yX5_howMany ∈ TB := tb_5 35 rfl rfl
theorem qm_X5_80 : Cond.methodLink RX5 80 yX5_isOfKind ∈ TB := tb_5 39 rfl rfl
theorem qm_X11_376 : Cond.methodLink RX11 376 yJ6_bitCount_0f7a4 ∈ TB := tb_5 40 rfl rfl
theorem qm_L_167 : Cond.methodLink RL 167 yX11_status ∈ TB := tb_5 41 rfl rfl
theorem qm_L_12 : Cond.methodLink RL 12 yX12_init ∈ TB := tb_5 47 rfl rfl
theorem qm_X12_11 : Cond.methodLink RX12 11 (⟨"java/lang/Object", "<init>", "()V"⟩ : MethodName) ∈ TB := tb_5 50 rfl rfl
theorem qm_L_17 : Cond.methodLink RL 17 yX12_sheet ∈ TB := tb_5 236 rfl rfl
theorem qm_X12_136 : Cond.methodLink RX12 136 yX12_isSheet ∈ TB := tb_6 0 rfl rfl
theorem qm_X12_132 : Cond.methodLink RX12 132 yX12_in ∈ TB := tb_6 4 rfl rfl
theorem qm_X12_143 : Cond.methodLink RX12 143 yX12_finding ∈ TB := tb_6 9 rfl rfl
theorem qm_L_21 : Cond.methodLink RL 21 yX12_set ∈ TB := tb_6 14 rfl rfl
theorem qm_L_26 : Cond.methodLink RL 26 yX12_copy ∈ TB := tb_6 18 rfl rfl
theorem qm_L_31 : Cond.methodLink RL 31 yX12_drop ∈ TB := tb_6 22 rfl rfl
theorem qm_L_35 : Cond.methodLink RL 35 yX12_bell ∈ TB := tb_6 26 rfl rfl
theorem qm_X12_153 : Cond.methodLink RX12 153 yX12_isGate ∈ TB := tb_6 30 rfl rfl
theorem qm_X12_156 : Cond.methodLink RX12 156 yX12_isMinute ∈ TB := tb_6 34 rfl rfl
theorem qm_L_40 : Cond.methodLink RL 40 yX12_part ∈ TB := tb_6 39 rfl rfl
theorem qm_L_44 : Cond.methodLink RL 44 yX12_stands ∈ TB := tb_6 44 rfl rfl
theorem qm_X12_163 : Cond.methodLink RX12 163 yX12_isSpot ∈ TB := tb_6 48 rfl rfl
theorem qm_L_51 : Cond.methodLink RL 51 yX12_feed ∈ TB := tb_6 52 rfl rfl
theorem qm_L_56 : Cond.methodLink RL 56 yX12_laws ∈ TB := tb_6 58 rfl rfl
theorem qm_X12_207 : Cond.methodLink RX12 207 yX12_step ∈ TB := tb_6 62 rfl rfl
theorem qm_X12_179 : Cond.methodLink RX12 179 yX12_byteAt ∈ TB := tb_6 66 rfl rfl
theorem qm_X12_188 : Cond.methodLink RX12 188 yX12_isLetter ∈ TB := tb_6 70 rfl rfl
theorem qm_X12_191 : Cond.methodLink RX12 191 yX12_isFigure ∈ TB := tb_6 73 rfl rfl
theorem qm_X12_214 : Cond.methodLink RX12 214 yX12_word ∈ TB := tb_6 76 rfl rfl
theorem qm_X12_210 : Cond.methodLink RX12 210 yX12_need ∈ TB := tb_6 81 rfl rfl
theorem qm_X12_203 : Cond.methodLink RX12 203 yX12_bad ∈ TB := tb_6 85 rfl rfl
theorem qm_X12_239 : Cond.methodLink RX12 239 yX12_numberTo ∈ TB := tb_6 89 rfl rfl
theorem qm_X12_247 : Cond.methodLink RX12 247 yX12_readLaw ∈ TB := tb_6 93 rfl rfl
theorem qm_X12_232 : Cond.methodLink RX12 232 yX12_lawOfWord ∈ TB := tb_6 97 rfl rfl
theorem qm_L_60 : Cond.methodLink RL 60 yX12_fault ∈ TB := tb_6 109 rfl rfl
theorem qm_L_64 : Cond.methodLink RL 64 yX12_holds ∈ TB := tb_6 113 rfl rfl
theorem qm_X12_258 : Cond.methodLink RX12 258 yX12_isDay ∈ TB := tb_6 117 rfl rfl
theorem qm_X12_261 : Cond.methodLink RX12 261 yX12_numberFor ∈ TB := tb_6 120 rfl rfl
theorem qm_X12_254 : Cond.methodLink RX12 254 yX12_lawFor ∈ TB := tb_6 124 rfl rfl
theorem qm_X12_277 : Cond.methodLink RX12 277 yX12_isGood ∈ TB := tb_6 134 rfl rfl
theorem qm_X12_284 : Cond.methodLink RX12 284 yX12_isBanned ∈ TB := tb_6 140 rfl rfl
theorem qm_L_68 : Cond.methodLink RL 68 yX12_cart ∈ TB := tb_6 144 rfl rfl
theorem qm_X12_290 : Cond.methodLink RX12 290 yX12_lookItems ∈ TB := tb_6 148 rfl rfl
theorem qm_L_72 : Cond.methodLink RL 72 yX12_owed ∈ TB := tb_6 154 rfl rfl
theorem qm_X12_297 : Cond.methodLink RX12 297 yX12_isCart ∈ TB := tb_6 158 rfl rfl
theorem qm_X12_300 : Cond.methodLink RX12 300 yX12_owedBy ∈ TB := tb_6 162 rfl rfl
theorem qm_L_77 : Cond.methodLink RL 77 yX12_pass ∈ TB := tb_6 166 rfl rfl
theorem qm_L_81 : Cond.methodLink RL 81 yX12_agree ∈ TB := tb_6 171 rfl rfl
theorem qm_X12_320 : Cond.methodLink RX12 320 yX12_goThrough ∈ TB := tb_6 175 rfl rfl
theorem qm_X12_317 : Cond.methodLink RX12 317 yX12_isOpen ∈ TB := tb_6 179 rfl rfl
theorem qm_L_85 : Cond.methodLink RL 85 yX12_amiss ∈ TB := tb_6 183 rfl rfl
theorem qm_L_89 : Cond.methodLink RL 89 yX12_road ∈ TB := tb_6 187 rfl rfl
theorem qm_X12_325 : Cond.methodLink RX12 325 yX12_isTown ∈ TB := tb_6 191 rfl rfl
theorem qm_L_93 : Cond.methodLink RL 93 yX12_sick ∈ TB := tb_6 195 rfl rfl
theorem qm_L_97 : Cond.methodLink RL 97 yX12_seal ∈ TB := tb_6 199 rfl rfl
theorem qm_X12_338 : Cond.methodLink RX12 338 yX12_isPerson ∈ TB := tb_6 204 rfl rfl
theorem qm_L_101 : Cond.methodLink RL 101 yX12_canbe ∈ TB := tb_6 209 rfl rfl
theorem qm_X12_343 : Cond.methodLink RX12 343 yX12_on ∈ TB := tb_6 213 rfl rfl
theorem qm_L_106 : Cond.methodLink RL 106 yX12_lets ∈ TB := tb_6 217 rfl rfl
theorem qm_X12_353 : Cond.methodLink RX12 353 yX12_isPass ∈ TB := tb_6 221 rfl rfl
theorem qm_X12_350 : Cond.methodLink RX12 350 yX12_isForged ∈ TB := tb_6 225 rfl rfl
theorem qm_L_110 : Cond.methodLink RL 110 yX12_dusk ∈ TB := tb_6 229 rfl rfl
theorem qm_X12_356 : Cond.methodLink RX12 356 yX12_far ∈ TB := tb_6 233 rfl rfl
theorem qm_L_114 : Cond.methodLink RL 114 yX12_clerks ∈ TB := tb_6 236 rfl rfl
theorem qm_X12_359 : Cond.methodLink RX12 359 yX12_waitedAt ∈ TB := tb_7 0 rfl rfl
theorem qm_L_118 : Cond.methodLink RL 118 yX12_guest ∈ TB := tb_7 4 rfl rfl
theorem qm_L_122 : Cond.methodLink RL 122 yX12_fell ∈ TB := tb_7 8 rfl rfl
theorem qm_L_126 : Cond.methodLink RL 126 yX12_brought ∈ TB := tb_7 12 rfl rfl
theorem qm_X12_366 : Cond.methodLink RX12 366 yX12_whoMay ∈ TB := tb_7 16 rfl rfl
theorem qm_X12_369 : Cond.methodLink RX12 369 yX12_bits ∈ TB := tb_7 20 rfl rfl
theorem qm_L_130 : Cond.methodLink RL 130 yX12_high ∈ TB := tb_7 23 rfl rfl
theorem qm_X12_372 : Cond.methodLink RX12 372 yX12_isLength ∈ TB := tb_7 27 rfl rfl
theorem qm_L_134 : Cond.methodLink RL 134 yX12_lean ∈ TB := tb_7 30 rfl rfl
theorem qm_L_138 : Cond.methodLink RL 138 yX12_breaches ∈ TB := tb_7 34 rfl rfl
theorem qm_X12_378 : Cond.methodLink RX12 378 yX12_breachesNow ∈ TB := tb_7 38 rfl rfl
theorem qm_L_142 : Cond.methodLink RL 142 yX12_watch ∈ TB := tb_7 42 rfl rfl
theorem qm_L_146 : Cond.methodLink RL 146 yX12_day ∈ TB := tb_7 48 rfl rfl
theorem qm_L_150 : Cond.methodLink RL 150 yX12_kind ∈ TB := tb_7 52 rfl rfl
theorem qm_X12_385 : Cond.methodLink RX12 385 yX12_kindOf ∈ TB := tb_7 56 rfl rfl
theorem qm_L_154 : Cond.methodLink RL 154 yX12_as ∈ TB := tb_7 60 rfl rfl
theorem qm_X12_388 : Cond.methodLink RX12 388 yX12_isOf ∈ TB := tb_7 64 rfl rfl
theorem qm_L_158 : Cond.methodLink RL 158 yX12_ask ∈ TB := tb_7 67 rfl rfl
theorem qm_X12_403 : Cond.methodLink RX12 403 yX12_sizeOf ∈ TB := tb_7 71 rfl rfl
theorem qm_X12_397 : Cond.methodLink RX12 397 yX12_nightSize ∈ TB := tb_7 75 rfl rfl
theorem qm_X12_394 : Cond.methodLink RX12 394 yX12_began ∈ TB := tb_7 79 rfl rfl
theorem qm_X12_400 : Cond.methodLink RX12 400 yX12_markOf ∈ TB := tb_7 83 rfl rfl
theorem qm_L_162 : Cond.methodLink RL 162 yX12_trace ∈ TB := tb_7 87 rfl rfl
theorem qm_L_166 : Cond.methodLink RL 166 yX12_count ∈ TB := tb_7 91 rfl rfl
theorem qm_L_170 : Cond.methodLink RL 170 yX12_status ∈ TB := tb_7 95 rfl rfl
theorem qc_X11_100 : Cond.constant RX11 100 (-1000001) ∈ TB := tb_2 136 rfl rfl
theorem qc_X11_384 : Cond.constant RX11 384 (-1000010) ∈ TB := tb_2 141 rfl rfl
theorem qc_X11_161 : Cond.constant RX11 161 (-1000003) ∈ TB := tb_2 222 rfl rfl
theorem qc_X11_177 : Cond.constant RX11 177 (-1000100) ∈ TB := tb_3 113 rfl rfl
theorem qc_X11_206 : Cond.constant RX11 206 (-1000000) ∈ TB := tb_3 155 rfl rfl
theorem qc_X11_216 : Cond.constant RX11 216 (100000) ∈ TB := tb_3 176 rfl rfl
theorem qc_J6_265 : Cond.constant RJ6 265 (1431655765) ∈ TB := tb_3 208 rfl rfl
theorem qc_J6_266 : Cond.constant RJ6 266 (858993459) ∈ TB := tb_3 209 rfl rfl
theorem qc_J6_267 : Cond.constant RJ6 267 (252645135) ∈ TB := tb_3 210 rfl rfl
theorem qc_X2_81 : Cond.constant RX2 81 (-1000000) ∈ TB := tb_3 226 rfl rfl
theorem qc_X4_27 : Cond.constant RX4 27 (-1000000) ∈ TB := tb_4 80 rfl rfl
theorem qc_X3_15 : Cond.constant RX3 15 (-1000000) ∈ TB := tb_4 153 rfl rfl
theorem qc_X12_129 : Cond.constant RX12 129 (-1000000) ∈ TB := tb_5 51 rfl rfl
theorem qc_X12_142 : Cond.constant RX12 142 (-1000001) ∈ TB := tb_6 8 rfl rfl
theorem qc_X12_10 : Cond.constant RX12 10 (-1000010) ∈ TB := tb_6 13 rfl rfl
theorem qc_X12_170 : Cond.constant RX12 170 (-1000003) ∈ TB := tb_6 56 rfl rfl
theorem qc_X12_253 : Cond.constant RX12 253 (-1000100) ∈ TB := tb_6 108 rfl rfl
theorem ql_X12_130 : Cond.constantLong RX12 130 (7) ∈ TB := tb_6 3 rfl rfl
theorem ql_X12_140 : Cond.constantLong RX12 140 (2) ∈ TB := tb_6 7 rfl rfl
theorem ql_X12_147 : Cond.constantLong RX12 147 (8) ∈ TB := tb_6 33 rfl rfl
theorem ql_X12_151 : Cond.constantLong RX12 151 (1439) ∈ TB := tb_6 37 rfl rfl
theorem ql_X12_159 : Cond.constantLong RX12 159 (1440) ∈ TB := tb_6 38 rfl rfl
theorem ql_X12_161 : Cond.constantLong RX12 161 (300) ∈ TB := tb_6 43 rfl rfl
theorem ql_X12_149 : Cond.constantLong RX12 149 (999) ∈ TB := tb_6 51 rfl rfl
theorem ql_X12_171 : Cond.constantLong RX12 171 (255) ∈ TB := tb_6 57 rfl rfl
theorem ql_X12_245 : Cond.constantLong RX12 245 (1718775661) ∈ TB := tb_6 80 rfl rfl
theorem ql_X12_218 : Cond.constantLong RX12 218 (512852583788) ∈ TB := tb_6 101 rfl rfl
theorem ql_X12_220 : Cond.constantLong RX12 220 (1953459308) ∈ TB := tb_6 102 rfl rfl
theorem ql_X12_222 : Cond.constantLong RX12 222 (1718773093) ∈ TB := tb_6 103 rfl rfl
theorem ql_X12_224 : Cond.constantLong RX12 224 (1735356260) ∈ TB := tb_6 104 rfl rfl
theorem ql_X12_226 : Cond.constantLong RX12 226 (6447460) ∈ TB := tb_6 105 rfl rfl
theorem ql_X12_228 : Cond.constantLong RX12 228 (6447470) ∈ TB := tb_6 106 rfl rfl
theorem ql_X12_230 : Cond.constantLong RX12 230 (1818846836) ∈ TB := tb_6 107 rfl rfl
theorem ql_X12_265 : Cond.constantLong RX12 265 (10) ∈ TB := tb_6 128 rfl rfl
theorem ql_X12_267 : Cond.constantLong RX12 267 (17) ∈ TB := tb_6 129 rfl rfl
theorem ql_X12_269 : Cond.constantLong RX12 269 (20) ∈ TB := tb_6 130 rfl rfl
theorem ql_X12_271 : Cond.constantLong RX12 271 (27) ∈ TB := tb_6 131 rfl rfl
theorem ql_X12_273 : Cond.constantLong RX12 273 (30) ∈ TB := tb_6 132 rfl rfl
theorem ql_X12_275 : Cond.constantLong RX12 275 (37) ∈ TB := tb_6 133 rfl rfl
theorem ql_X12_280 : Cond.constantLong RX12 280 (40) ∈ TB := tb_6 138 rfl rfl
theorem ql_X12_282 : Cond.constantLong RX12 282 (51) ∈ TB := tb_6 139 rfl rfl
theorem ql_X12_293 : Cond.constantLong RX12 293 (4) ∈ TB := tb_6 152 rfl rfl
theorem ql_X12_295 : Cond.constantLong RX12 295 (99) ∈ TB := tb_6 153 rfl rfl
theorem ql_X12_303 : Cond.constantLong RX12 303 (100000) ∈ TB := tb_6 170 rfl rfl
theorem ql_X12_328 : Cond.constantLong RX12 328 (60) ∈ TB := tb_6 194 rfl rfl
theorem ql_X12_336 : Cond.constantLong RX12 336 (3) ∈ TB := tb_6 203 rfl rfl
theorem ql_X12_323 : Cond.constantLong RX12 323 (11) ∈ TB := tb_6 207 rfl rfl
theorem ql_X12_341 : Cond.constantLong RX12 341 (9) ∈ TB := tb_6 208 rfl rfl
theorem ql_X12_381 : Cond.constantLong RX12 381 (12) ∈ TB := tb_7 46 rfl rfl
theorem ql_X12_383 : Cond.constantLong RX12 383 (4095) ∈ TB := tb_7 47 rfl rfl
theorem ql_L_45 : Cond.constantLong RL 45 (4294967295) ∈ TB := tb_7 99 rfl rfl
theorem qi_L : Cond.initialized RL ∈ TB := tb_1 0 rfl rfl
theorem qi_X11 : Cond.initialized RX11 ∈ TB := tb_1 1 rfl rfl
theorem qi_X8 : Cond.initialized RX8 ∈ TB := tb_1 2 rfl rfl
theorem qi_X4 : Cond.initialized RX4 ∈ TB := tb_1 3 rfl rfl
theorem qi_X1 : Cond.initialized RX1 ∈ TB := tb_1 4 rfl rfl
theorem qi_X7 : Cond.initialized RX7 ∈ TB := tb_1 5 rfl rfl
theorem qi_X2 : Cond.initialized RX2 ∈ TB := tb_1 6 rfl rfl
theorem qi_X5 : Cond.initialized RX5 ∈ TB := tb_1 7 rfl rfl
theorem qi_X0 : Cond.initialized RX0 ∈ TB := tb_1 8 rfl rfl
theorem qi_X6 : Cond.initialized RX6 ∈ TB := tb_1 9 rfl rfl
theorem qi_X9 : Cond.initialized RX9 ∈ TB := tb_1 10 rfl rfl
theorem qi_X10 : Cond.initialized RX10 ∈ TB := tb_1 11 rfl rfl
theorem qi_X3 : Cond.initialized RX3 ∈ TB := tb_1 12 rfl rfl
theorem qi_X12 : Cond.initialized RX12 ∈ TB := tb_1 13 rfl rfl
theorem qi_J10 : Cond.initialized RJ10 ∈ TB := tb_1 14 rfl rfl
theorem qi_J0 : Cond.initialized RJ0 ∈ TB := tb_1 15 rfl rfl
theorem qi_J1 : Cond.initialized RJ1 ∈ TB := tb_1 16 rfl rfl
theorem qi_J3 : Cond.initialized RJ3 ∈ TB := tb_1 17 rfl rfl
theorem qi_J2 : Cond.initialized RJ2 ∈ TB := tb_1 18 rfl rfl
theorem qi_J6 : Cond.initialized RJ6 ∈ TB := tb_1 19 rfl rfl
theorem qi_J9 : Cond.initialized RJ9 ∈ TB := tb_1 20 rfl rfl
theorem qv_X11_init : Cond.instanceMethod yX11_init ∈ TB := tb_1 24 rfl rfl
theorem qo_X11_init : Cond.code yX11_init cX11_init 1 none ∈ TB := tb_1 25 rfl rfl
theorem qv_X8_init : Cond.instanceMethod yX8_init ∈ TB := tb_1 32 rfl rfl
theorem qo_X8_init : Cond.code yX8_init cX8_init 2 none ∈ TB := tb_1 33 rfl rfl
theorem qw_arrI : Cond.arrayClass .int ∈ TB := tb_1 45 rfl rfl
theorem qv_X4_init : Cond.instanceMethod yX4_init ∈ TB := tb_1 49 rfl rfl
theorem qo_X4_init : Cond.code yX4_init cX4_init 2 none ∈ TB := tb_1 50 rfl rfl
theorem qv_X1_init : Cond.instanceMethod yX1_init ∈ TB := tb_1 77 rfl rfl
theorem qo_X1_init : Cond.code yX1_init cX1_init 1 none ∈ TB := tb_1 78 rfl rfl
theorem qv_X7_init : Cond.instanceMethod yX7_init ∈ TB := tb_1 100 rfl rfl
theorem qo_X7_init : Cond.code yX7_init cX7_init 2 none ∈ TB := tb_1 101 rfl rfl
theorem qv_X2_init : Cond.instanceMethod yX2_init ∈ TB := tb_1 137 rfl rfl
theorem qo_X2_init : Cond.code yX2_init cX2_init 3 none ∈ TB := tb_1 138 rfl rfl
theorem qv_X5_init : Cond.instanceMethod yX5_init ∈ TB := tb_1 176 rfl rfl
theorem qo_X5_init : Cond.code yX5_init cX5_init 5 none ∈ TB := tb_1 177 rfl rfl
theorem qv_X0_init : Cond.instanceMethod yX0_init ∈ TB := tb_1 215 rfl rfl
theorem qo_X0_init : Cond.code yX0_init cX0_init 2 none ∈ TB := tb_1 216 rfl rfl
theorem qv_X6_init : Cond.instanceMethod yX6_init ∈ TB := tb_1 233 rfl rfl
theorem qo_X6_init : Cond.code yX6_init cX6_init 1 none ∈ TB := tb_1 234 rfl rfl
theorem qv_X9_init : Cond.instanceMethod yX9_init ∈ TB := tb_2 23 rfl rfl
theorem qo_X9_init : Cond.code yX9_init cX9_init 2 none ∈ TB := tb_2 24 rfl rfl
theorem qv_X10_init : Cond.instanceMethod yX10_init ∈ TB := tb_2 49 rfl rfl
theorem qo_X10_init : Cond.code yX10_init cX10_init 2 none ∈ TB := tb_2 50 rfl rfl
theorem qv_X3_init : Cond.instanceMethod yX3_init ∈ TB := tb_2 70 rfl rfl
theorem qo_X3_init : Cond.code yX3_init cX3_init 1 none ∈ TB := tb_2 71 rfl rfl
theorem qv_X11_sheet : Cond.instanceMethod yX11_sheet ∈ TB := tb_2 127 rfl rfl
theorem qe_X11_sheet : Cond.selects RX11 yX11_sheet yX11_sheet ∈ TB := tb_2 128 rfl rfl
theorem qo_X11_sheet : Cond.code yX11_sheet cX11_sheet 4 (some .int) ∈ TB := tb_2 129 rfl rfl
theorem qt_X11_isSheet : Cond.static yX11_isSheet ∈ TB := tb_2 131 rfl rfl
theorem qo_X11_isSheet : Cond.code yX11_isSheet cX11_isSheet 1 (some .boolean) ∈ TB := tb_2 132 rfl rfl
theorem qt_X11_within : Cond.static yX11_within ∈ TB := tb_2 134 rfl rfl
theorem qo_X11_within : Cond.code yX11_within cX11_within 3 (some .boolean) ∈ TB := tb_2 135 rfl rfl
theorem qv_X11_found : Cond.instanceMethod yX11_found ∈ TB := tb_2 139 rfl rfl
theorem qo_X11_found : Cond.code yX11_found cX11_found 2 (some .int) ∈ TB := tb_2 140 rfl rfl
theorem qv_X8_lay : Cond.instanceMethod yX8_lay ∈ TB := tb_2 143 rfl rfl
theorem qe_X8_lay : Cond.selects RX8 yX8_lay yX8_lay ∈ TB := tb_2 144 rfl rfl
theorem qo_X8_lay : Cond.code yX8_lay cX8_lay 5 none ∈ TB := tb_2 145 rfl rfl
theorem qv_X11_fine : Cond.instanceMethod yX11_fine ∈ TB := tb_2 148 rfl rfl
theorem qo_X11_fine : Cond.code yX11_fine cX11_fine 2 (some .int) ∈ TB := tb_2 149 rfl rfl
theorem qv_X11_set : Cond.instanceMethod yX11_set ∈ TB := tb_2 151 rfl rfl
theorem qe_X11_set : Cond.selects RX11 yX11_set yX11_set ∈ TB := tb_2 152 rfl rfl
theorem qo_X11_set : Cond.code yX11_set cX11_set 5 (some .int) ∈ TB := tb_2 153 rfl rfl
theorem qv_X11_flawOf : Cond.instanceMethod yX11_flawOf ∈ TB := tb_2 156 rfl rfl
theorem qo_X11_flawOf : Cond.code yX11_flawOf cX11_flawOf 4 (some .int) ∈ TB := tb_2 157 rfl rfl
theorem qv_X8_isMissing : Cond.instanceMethod yX8_isMissing ∈ TB := tb_2 159 rfl rfl
theorem qe_X8_isMissing : Cond.selects RX8 yX8_isMissing yX8_isMissing ∈ TB := tb_2 160 rfl rfl
theorem qo_X8_isMissing : Cond.code yX8_isMissing cX8_isMissing 2 (some .boolean) ∈ TB := tb_2 161 rfl rfl
theorem qv_X8_hasPlaces : Cond.instanceMethod yX8_hasPlaces ∈ TB := tb_2 163 rfl rfl
theorem qe_X8_hasPlaces : Cond.selects RX8 yX8_hasPlaces yX8_hasPlaces ∈ TB := tb_2 164 rfl rfl
theorem qo_X8_hasPlaces : Cond.code yX8_hasPlaces cX8_hasPlaces 4 (some .boolean) ∈ TB := tb_2 165 rfl rfl
theorem qv_X8_put : Cond.instanceMethod yX8_put ∈ TB := tb_2 167 rfl rfl
theorem qe_X8_put : Cond.selects RX8 yX8_put yX8_put ∈ TB := tb_2 168 rfl rfl
theorem qo_X8_put : Cond.code yX8_put cX8_put 5 (some .int) ∈ TB := tb_2 169 rfl rfl
theorem qt_X8_cutTo : Cond.static yX8_cutTo ∈ TB := tb_2 171 rfl rfl
theorem qo_X8_cutTo : Cond.code yX8_cutTo cX8_cutTo 2 (some .int) ∈ TB := tb_2 172 rfl rfl
theorem qv_X11_copy : Cond.instanceMethod yX11_copy ∈ TB := tb_2 174 rfl rfl
theorem qe_X11_copy : Cond.selects RX11 yX11_copy yX11_copy ∈ TB := tb_2 175 rfl rfl
theorem qo_X11_copy : Cond.code yX11_copy cX11_copy 6 (some .int) ∈ TB := tb_2 176 rfl rfl
theorem qv_X8_laneOf : Cond.instanceMethod yX8_laneOf ∈ TB := tb_2 178 rfl rfl
theorem qe_X8_laneOf : Cond.selects RX8 yX8_laneOf yX8_laneOf ∈ TB := tb_2 179 rfl rfl
theorem qo_X8_laneOf : Cond.code yX8_laneOf cX8_laneOf 2 (some .int) ∈ TB := tb_2 180 rfl rfl
theorem qv_X8_move : Cond.instanceMethod yX8_move ∈ TB := tb_2 182 rfl rfl
theorem qe_X8_move : Cond.selects RX8 yX8_move yX8_move ∈ TB := tb_2 183 rfl rfl
theorem qo_X8_move : Cond.code yX8_move cX8_move 6 none ∈ TB := tb_2 184 rfl rfl
theorem qw_stac : Cond.static arraycopyName ∈ TB := tb_2 186 rfl rfl
theorem qw_native : Cond.native arraycopyName ∈ TB := tb_2 187 rfl rfl
theorem qv_X11_drop : Cond.instanceMethod yX11_drop ∈ TB := tb_2 189 rfl rfl
theorem qe_X11_drop : Cond.selects RX11 yX11_drop yX11_drop ∈ TB := tb_2 190 rfl rfl
theorem qo_X11_drop : Cond.code yX11_drop cX11_drop 2 (some .int) ∈ TB := tb_2 191 rfl rfl
theorem qv_X8_takeAway : Cond.instanceMethod yX8_takeAway ∈ TB := tb_2 193 rfl rfl
theorem qe_X8_takeAway : Cond.selects RX8 yX8_takeAway yX8_takeAway ∈ TB := tb_2 194 rfl rfl
theorem qo_X8_takeAway : Cond.code yX8_takeAway cX8_takeAway 3 (some .int) ∈ TB := tb_2 195 rfl rfl
theorem qv_X11_bell : Cond.instanceMethod yX11_bell ∈ TB := tb_2 197 rfl rfl
theorem qe_X11_bell : Cond.selects RX11 yX11_bell yX11_bell ∈ TB := tb_2 198 rfl rfl
theorem qo_X11_bell : Cond.code yX11_bell cX11_bell 4 (some .int) ∈ TB := tb_2 199 rfl rfl
theorem qt_X11_isGate : Cond.static yX11_isGate ∈ TB := tb_2 201 rfl rfl
theorem qo_X11_isGate : Cond.code yX11_isGate cX11_isGate 1 (some .boolean) ∈ TB := tb_2 202 rfl rfl
theorem qv_X11_part : Cond.instanceMethod yX11_part ∈ TB := tb_2 204 rfl rfl
theorem qe_X11_part : Cond.selects RX11 yX11_part yX11_part ∈ TB := tb_2 205 rfl rfl
theorem qo_X11_part : Cond.code yX11_part cX11_part 4 (some .int) ∈ TB := tb_2 206 rfl rfl
theorem qv_X11_stands : Cond.instanceMethod yX11_stands ∈ TB := tb_2 208 rfl rfl
theorem qe_X11_stands : Cond.selects RX11 yX11_stands yX11_stands ∈ TB := tb_2 209 rfl rfl
theorem qo_X11_stands : Cond.code yX11_stands cX11_stands 4 (some .int) ∈ TB := tb_2 210 rfl rfl
theorem qt_X11_isPlace : Cond.static yX11_isPlace ∈ TB := tb_2 212 rfl rfl
theorem qo_X11_isPlace : Cond.code yX11_isPlace cX11_isPlace 2 (some .boolean) ∈ TB := tb_2 213 rfl rfl
theorem qv_X11_feed : Cond.instanceMethod yX11_feed ∈ TB := tb_2 215 rfl rfl
theorem qe_X11_feed : Cond.selects RX11 yX11_feed yX11_feed ∈ TB := tb_2 216 rfl rfl
theorem qo_X11_feed : Cond.code yX11_feed cX11_feed 4 (some .int) ∈ TB := tb_2 217 rfl rfl
theorem qv_X7_hasRoom : Cond.instanceMethod yX7_hasRoom ∈ TB := tb_2 219 rfl rfl
theorem qe_X7_hasRoom : Cond.selects RX7 yX7_hasRoom yX7_hasRoom ∈ TB := tb_2 220 rfl rfl
theorem qo_X7_hasRoom : Cond.code yX7_hasRoom cX7_hasRoom 2 (some .boolean) ∈ TB := tb_2 221 rfl rfl
theorem qv_X7_append : Cond.instanceMethod yX7_append ∈ TB := tb_2 224 rfl rfl
theorem qe_X7_append : Cond.selects RX7 yX7_append yX7_append ∈ TB := tb_2 225 rfl rfl
theorem qo_X7_append : Cond.code yX7_append cX7_append 5 none ∈ TB := tb_2 226 rfl rfl
theorem qv_X11_laws : Cond.instanceMethod yX11_laws ∈ TB := tb_2 228 rfl rfl
theorem qe_X11_laws : Cond.selects RX11 yX11_laws yX11_laws ∈ TB := tb_2 229 rfl rfl
theorem qo_X11_laws : Cond.code yX11_laws cX11_laws 1 (some .int) ∈ TB := tb_2 230 rfl rfl
theorem qv_X7_readTape : Cond.instanceMethod yX7_readTape ∈ TB := tb_2 232 rfl rfl
theorem qe_X7_readTape : Cond.selects RX7 yX7_readTape yX7_readTape ∈ TB := tb_2 233 rfl rfl
theorem qo_X7_readTape : Cond.code yX7_readTape cX7_readTape 3 (some .boolean) ∈ TB := tb_2 234 rfl rfl
theorem qv_X1_beginDraft : Cond.instanceMethod yX1_beginDraft ∈ TB := tb_2 236 rfl rfl
theorem qe_X1_beginDraft : Cond.selects RX1 yX1_beginDraft yX1_beginDraft ∈ TB := tb_2 237 rfl rfl
theorem qo_X1_beginDraft : Cond.code yX1_beginDraft cX1_beginDraft 1 none ∈ TB := tb_2 238 rfl rfl
theorem qv_X7_nextToken : Cond.instanceMethod yX7_nextToken ∈ TB := tb_3 1 rfl rfl
theorem qo_X7_nextToken : Cond.code yX7_nextToken cX7_nextToken 1 none ∈ TB := tb_3 2 rfl rfl
theorem qt_X7_isLetter : Cond.static yX7_isLetter ∈ TB := tb_3 4 rfl rfl
theorem qo_X7_isLetter : Cond.code yX7_isLetter cX7_isLetter 1 (some .boolean) ∈ TB := tb_3 5 rfl rfl
theorem qv_X7_readName : Cond.instanceMethod yX7_readName ∈ TB := tb_3 8 rfl rfl
theorem qo_X7_readName : Cond.code yX7_readName cX7_readName 1 none ∈ TB := tb_3 9 rfl rfl
theorem qt_X7_isFigure : Cond.static yX7_isFigure ∈ TB := tb_3 11 rfl rfl
theorem qo_X7_isFigure : Cond.code yX7_isFigure cX7_isFigure 1 (some .boolean) ∈ TB := tb_3 12 rfl rfl
theorem qv_X7_readNumber : Cond.instanceMethod yX7_readNumber ∈ TB := tb_3 15 rfl rfl
theorem qo_X7_readNumber : Cond.code yX7_readNumber cX7_readNumber 1 none ∈ TB := tb_3 16 rfl rfl
theorem qv_X7_readSection : Cond.instanceMethod yX7_readSection ∈ TB := tb_3 19 rfl rfl
theorem qo_X7_readSection : Cond.code yX7_readSection cX7_readSection 4 (some .boolean) ∈ TB := tb_3 20 rfl rfl
theorem qv_X7_spells : Cond.instanceMethod yX7_spells ∈ TB := tb_3 24 rfl rfl
theorem qo_X7_spells : Cond.code yX7_spells cX7_spells 3 (some .boolean) ∈ TB := tb_3 25 rfl rfl
theorem qv_J0_length_8abf5 : Cond.instanceMethod yJ0_length_8abf5 ∈ TB := tb_3 27 rfl rfl
theorem qe_J0_length_8abf5 : Cond.selects RJ0 yJ0_length_8abf5 yJ0_length_8abf5 ∈ TB := tb_3 28 rfl rfl
theorem qo_J0_length_8abf5 : Cond.code yJ0_length_8abf5 cJ0_length_8abf5 1 (some .int) ∈ TB := tb_3 29 rfl rfl
theorem qv_J0_coder_7d493 : Cond.instanceMethod yJ0_coder_7d493 ∈ TB := tb_3 31 rfl rfl
theorem qe_J0_coder_7d493 : Cond.selects RJ0 yJ0_coder_7d493 yJ0_coder_7d493 ∈ TB := tb_3 32 rfl rfl
theorem qo_J0_coder_7d493 : Cond.code yJ0_coder_7d493 cJ0_coder_7d493 1 (some .byte) ∈ TB := tb_3 33 rfl rfl
theorem qv_J0_charAt_5068e : Cond.instanceMethod yJ0_charAt_5068e ∈ TB := tb_3 37 rfl rfl
theorem qe_J0_charAt_5068e : Cond.selects RJ0 yJ0_charAt_5068e yJ0_charAt_5068e ∈ TB := tb_3 38 rfl rfl
theorem qo_J0_charAt_5068e : Cond.code yJ0_charAt_5068e cJ0_charAt_5068e 2 (some .char) ∈ TB := tb_3 39 rfl rfl
theorem qv_J0_isLatin1_aae02 : Cond.instanceMethod yJ0_isLatin1_aae02 ∈ TB := tb_3 41 rfl rfl
theorem qe_J0_isLatin1_aae02 : Cond.selects RJ0 yJ0_isLatin1_aae02 yJ0_isLatin1_aae02 ∈ TB := tb_3 42 rfl rfl
theorem qo_J0_isLatin1_aae02 : Cond.code yJ0_isLatin1_aae02 cJ0_isLatin1_aae02 1 (some .boolean) ∈ TB := tb_3 43 rfl rfl
theorem qt_J1_charAt_3b067 : Cond.static yJ1_charAt_3b067 ∈ TB := tb_3 45 rfl rfl
theorem qo_J1_charAt_3b067 : Cond.code yJ1_charAt_3b067 cJ1_charAt_3b067 2 (some .char) ∈ TB := tb_3 46 rfl rfl
theorem qt_J0_checkIndex_df160 : Cond.static yJ0_checkIndex_df160 ∈ TB := tb_3 48 rfl rfl
theorem qo_J0_checkIndex_df160 : Cond.code yJ0_checkIndex_df160 cJ0_checkIndex_df160 2 none ∈ TB := tb_3 49 rfl rfl
theorem qt_J3_checkIndex_8e157 : Cond.static yJ3_checkIndex_8e157 ∈ TB := tb_3 53 rfl rfl
theorem qo_J3_checkIndex_8e157 : Cond.code yJ3_checkIndex_8e157 cJ3_checkIndex_8e157 3 (some .int) ∈ TB := tb_3 54 rfl rfl
theorem qt_J2_charAt_3b067 : Cond.static yJ2_charAt_3b067 ∈ TB := tb_3 56 rfl rfl
theorem qo_J2_charAt_3b067 : Cond.code yJ2_charAt_3b067 cJ2_charAt_3b067 2 (some .char) ∈ TB := tb_3 57 rfl rfl
theorem qt_J2_checkIndex_2214a : Cond.static yJ2_checkIndex_2214a ∈ TB := tb_3 59 rfl rfl
theorem qo_J2_checkIndex_2214a : Cond.code yJ2_checkIndex_2214a cJ2_checkIndex_2214a 2 none ∈ TB := tb_3 60 rfl rfl
theorem qt_J2_length_9d52b : Cond.static yJ2_length_9d52b ∈ TB := tb_3 62 rfl rfl
theorem qo_J2_length_9d52b : Cond.code yJ2_length_9d52b cJ2_length_9d52b 1 (some .int) ∈ TB := tb_3 63 rfl rfl
theorem qt_J2_getChar_3b067 : Cond.static yJ2_getChar_3b067 ∈ TB := tb_3 66 rfl rfl
theorem qo_J2_getChar_3b067 : Cond.code yJ2_getChar_3b067 cJ2_getChar_3b067 2 (some .char) ∈ TB := tb_3 67 rfl rfl
theorem qv_X7_blame : Cond.instanceMethod yX7_blame ∈ TB := tb_3 76 rfl rfl
theorem qo_X7_blame : Cond.code yX7_blame cX7_blame 2 (some .boolean) ∈ TB := tb_3 77 rfl rfl
theorem qv_X7_isNumberUpTo : Cond.instanceMethod yX7_isNumberUpTo ∈ TB := tb_3 80 rfl rfl
theorem qo_X7_isNumberUpTo : Cond.code yX7_isNumberUpTo cX7_isNumberUpTo 2 (some .boolean) ∈ TB := tb_3 81 rfl rfl
theorem qv_X7_readLaw : Cond.instanceMethod yX7_readLaw ∈ TB := tb_3 84 rfl rfl
theorem qo_X7_readLaw : Cond.code yX7_readLaw cX7_readLaw 4 (some .boolean) ∈ TB := tb_3 85 rfl rfl
theorem qv_X7_lawWord : Cond.instanceMethod yX7_lawWord ∈ TB := tb_3 88 rfl rfl
theorem qo_X7_lawWord : Cond.code yX7_lawWord cX7_lawWord 1 (some .int) ∈ TB := tb_3 89 rfl rfl
theorem qv_X1_isDraftFull : Cond.instanceMethod yX1_isDraftFull ∈ TB := tb_3 98 rfl rfl
theorem qe_X1_isDraftFull : Cond.selects RX1 yX1_isDraftFull yX1_isDraftFull ∈ TB := tb_3 99 rfl rfl
theorem qo_X1_isDraftFull : Cond.code yX1_isDraftFull cX1_isDraftFull 1 (some .boolean) ∈ TB := tb_3 100 rfl rfl
theorem qv_X1_draft : Cond.instanceMethod yX1_draft ∈ TB := tb_3 106 rfl rfl
theorem qe_X1_draft : Cond.selects RX1 yX1_draft yX1_draft ∈ TB := tb_3 107 rfl rfl
theorem qo_X1_draft : Cond.code yX1_draft cX1_draft 4 none ∈ TB := tb_3 108 rfl rfl
theorem qv_X1_passDraft : Cond.instanceMethod yX1_passDraft ∈ TB := tb_3 110 rfl rfl
theorem qe_X1_passDraft : Cond.selects RX1 yX1_passDraft yX1_passDraft ∈ TB := tb_3 111 rfl rfl
theorem qo_X1_passDraft : Cond.code yX1_passDraft cX1_passDraft 1 none ∈ TB := tb_3 112 rfl rfl
theorem qv_X11_fault : Cond.instanceMethod yX11_fault ∈ TB := tb_3 116 rfl rfl
theorem qe_X11_fault : Cond.selects RX11 yX11_fault yX11_fault ∈ TB := tb_3 117 rfl rfl
theorem qo_X11_fault : Cond.code yX11_fault cX11_fault 1 (some .int) ∈ TB := tb_3 118 rfl rfl
theorem qv_X11_holds : Cond.instanceMethod yX11_holds ∈ TB := tb_3 120 rfl rfl
theorem qe_X11_holds : Cond.selects RX11 yX11_holds yX11_holds ∈ TB := tb_3 121 rfl rfl
theorem qo_X11_holds : Cond.code yX11_holds cX11_holds 3 (some .int) ∈ TB := tb_3 122 rfl rfl
theorem qt_X11_isDay : Cond.static yX11_isDay ∈ TB := tb_3 124 rfl rfl
theorem qo_X11_isDay : Cond.code yX11_isDay cX11_isDay 1 (some .boolean) ∈ TB := tb_3 125 rfl rfl
theorem qt_X1_isTopic : Cond.static yX1_isTopic ∈ TB := tb_3 127 rfl rfl
theorem qo_X1_isTopic : Cond.code yX1_isTopic cX1_isTopic 1 (some .boolean) ∈ TB := tb_3 128 rfl rfl
theorem qv_X1_inForce : Cond.instanceMethod yX1_inForce ∈ TB := tb_3 131 rfl rfl
theorem qe_X1_inForce : Cond.selects RX1 yX1_inForce yX1_inForce ∈ TB := tb_3 132 rfl rfl
theorem qo_X1_inForce : Cond.code yX1_inForce cX1_inForce 6 (some .int) ∈ TB := tb_3 133 rfl rfl
theorem qv_X11_cart : Cond.instanceMethod yX11_cart ∈ TB := tb_3 135 rfl rfl
theorem qe_X11_cart : Cond.selects RX11 yX11_cart yX11_cart ∈ TB := tb_3 136 rfl rfl
theorem qo_X11_cart : Cond.code yX11_cart cX11_cart 5 (some .int) ∈ TB := tb_3 137 rfl rfl
theorem qv_X8_itemAt : Cond.instanceMethod yX8_itemAt ∈ TB := tb_3 139 rfl rfl
theorem qe_X8_itemAt : Cond.selects RX8 yX8_itemAt yX8_itemAt ∈ TB := tb_3 140 rfl rfl
theorem qo_X8_itemAt : Cond.code yX8_itemAt cX8_itemAt 3 (some .int) ∈ TB := tb_3 141 rfl rfl
theorem qv_X2_addCart : Cond.instanceMethod yX2_addCart ∈ TB := tb_3 143 rfl rfl
theorem qe_X2_addCart : Cond.selects RX2 yX2_addCart yX2_addCart ∈ TB := tb_3 144 rfl rfl
theorem qo_X2_addCart : Cond.code yX2_addCart cX2_addCart 5 (some .int) ∈ TB := tb_3 145 rfl rfl
theorem qv_X11_owed : Cond.instanceMethod yX11_owed ∈ TB := tb_3 148 rfl rfl
theorem qe_X11_owed : Cond.selects RX11 yX11_owed yX11_owed ∈ TB := tb_3 149 rfl rfl
theorem qo_X11_owed : Cond.code yX11_owed cX11_owed 4 (some .int) ∈ TB := tb_3 150 rfl rfl
theorem qv_X11_isCart : Cond.instanceMethod yX11_isCart ∈ TB := tb_3 153 rfl rfl
theorem qo_X11_isCart : Cond.code yX11_isCart cX11_isCart 2 (some .boolean) ∈ TB := tb_3 154 rfl rfl
theorem qv_X2_leastGate : Cond.instanceMethod yX2_leastGate ∈ TB := tb_3 157 rfl rfl
theorem qe_X2_leastGate : Cond.selects RX2 yX2_leastGate yX2_leastGate ∈ TB := tb_3 158 rfl rfl
theorem qo_X2_leastGate : Cond.code yX2_leastGate cX2_leastGate 6 (some .int) ∈ TB := tb_3 159 rfl rfl
theorem qv_X2_wholeToll : Cond.instanceMethod yX2_wholeToll ∈ TB := tb_3 162 rfl rfl
theorem qo_X2_wholeToll : Cond.code yX2_wholeToll cX2_wholeToll 6 (some .int) ∈ TB := tb_3 163 rfl rfl
theorem qv_X2_owedAt : Cond.instanceMethod yX2_owedAt ∈ TB := tb_3 166 rfl rfl
theorem qe_X2_owedAt : Cond.selects RX2 yX2_owedAt yX2_owedAt ∈ TB := tb_3 167 rfl rfl
theorem qo_X2_owedAt : Cond.code yX2_owedAt cX2_owedAt 4 (some .int) ∈ TB := tb_3 168 rfl rfl
theorem qv_X11_pass : Cond.instanceMethod yX11_pass ∈ TB := tb_3 170 rfl rfl
theorem qe_X11_pass : Cond.selects RX11 yX11_pass yX11_pass ∈ TB := tb_3 171 rfl rfl
theorem qo_X11_pass : Cond.code yX11_pass cX11_pass 7 (some .int) ∈ TB := tb_3 172 rfl rfl
theorem qt_X11_isMinute : Cond.static yX11_isMinute ∈ TB := tb_3 174 rfl rfl
theorem qo_X11_isMinute : Cond.code yX11_isMinute cX11_isMinute 1 (some .boolean) ∈ TB := tb_3 175 rfl rfl
theorem qv_X2_addPassing : Cond.instanceMethod yX2_addPassing ∈ TB := tb_3 178 rfl rfl
theorem qe_X2_addPassing : Cond.selects RX2 yX2_addPassing yX2_addPassing ∈ TB := tb_3 179 rfl rfl
theorem qo_X2_addPassing : Cond.code yX2_addPassing cX2_addPassing 9 (some .int) ∈ TB := tb_3 180 rfl rfl
theorem qv_X2_shiftOn : Cond.instanceMethod yX2_shiftOn ∈ TB := tb_3 183 rfl rfl
theorem qo_X2_shiftOn : Cond.code yX2_shiftOn cX2_shiftOn 2 none ∈ TB := tb_3 184 rfl rfl
theorem qv_X11_agree : Cond.instanceMethod yX11_agree ∈ TB := tb_3 186 rfl rfl
theorem qe_X11_agree : Cond.selects RX11 yX11_agree yX11_agree ∈ TB := tb_3 187 rfl rfl
theorem qo_X11_agree : Cond.code yX11_agree cX11_agree 2 (some .int) ∈ TB := tb_3 188 rfl rfl
theorem qv_X2_wrongPassings : Cond.instanceMethod yX2_wrongPassings ∈ TB := tb_3 190 rfl rfl
theorem qe_X2_wrongPassings : Cond.selects RX2 yX2_wrongPassings yX2_wrongPassings ∈ TB := tb_3 191 rfl rfl
theorem qo_X2_wrongPassings : Cond.code yX2_wrongPassings cX2_wrongPassings 5 (some .int) ∈ TB := tb_3 192 rfl rfl
theorem qv_X4_isOpen : Cond.instanceMethod yX4_isOpen ∈ TB := tb_3 194 rfl rfl
theorem qe_X4_isOpen : Cond.selects RX4 yX4_isOpen yX4_isOpen ∈ TB := tb_3 195 rfl rfl
theorem qo_X4_isOpen : Cond.code yX4_isOpen cX4_isOpen 3 (some .boolean) ∈ TB := tb_3 196 rfl rfl
theorem qv_X2_afterPassing : Cond.instanceMethod yX2_afterPassing ∈ TB := tb_3 199 rfl rfl
theorem qo_X2_afterPassing : Cond.code yX2_afterPassing cX2_afterPassing 4 (some .int) ∈ TB := tb_3 200 rfl rfl
theorem qv_X2_cartsInside : Cond.instanceMethod yX2_cartsInside ∈ TB := tb_3 202 rfl rfl
theorem qe_X2_cartsInside : Cond.selects RX2 yX2_cartsInside yX2_cartsInside ∈ TB := tb_3 203 rfl rfl
theorem qo_X2_cartsInside : Cond.code yX2_cartsInside cX2_cartsInside 3 (some .int) ∈ TB := tb_3 204 rfl rfl
theorem qt_J6_bitCount_0f7a4 : Cond.static yJ6_bitCount_0f7a4 ∈ TB := tb_3 206 rfl rfl
theorem qo_J6_bitCount_0f7a4 : Cond.code yJ6_bitCount_0f7a4 cJ6_bitCount_0f7a4 1 (some .int) ∈ TB := tb_3 207 rfl rfl
theorem qv_X2_lostCarts : Cond.instanceMethod yX2_lostCarts ∈ TB := tb_3 212 rfl rfl
theorem qe_X2_lostCarts : Cond.selects RX2 yX2_lostCarts yX2_lostCarts ∈ TB := tb_3 213 rfl rfl
theorem qo_X2_lostCarts : Cond.code yX2_lostCarts cX2_lostCarts 5 (some .int) ∈ TB := tb_3 214 rfl rfl
theorem qv_X11_amiss : Cond.instanceMethod yX11_amiss ∈ TB := tb_3 216 rfl rfl
theorem qe_X11_amiss : Cond.selects RX11 yX11_amiss yX11_amiss ∈ TB := tb_3 217 rfl rfl
theorem qo_X11_amiss : Cond.code yX11_amiss cX11_amiss 4 (some .int) ∈ TB := tb_3 218 rfl rfl
theorem qt_X11_areDays : Cond.static yX11_areDays ∈ TB := tb_3 220 rfl rfl
theorem qo_X11_areDays : Cond.code yX11_areDays cX11_areDays 2 (some .boolean) ∈ TB := tb_3 221 rfl rfl
theorem qv_X2_shortOf : Cond.instanceMethod yX2_shortOf ∈ TB := tb_3 223 rfl rfl
theorem qe_X2_shortOf : Cond.selects RX2 yX2_shortOf yX2_shortOf ∈ TB := tb_3 224 rfl rfl
theorem qo_X2_shortOf : Cond.code yX2_shortOf cX2_shortOf 8 (some .int) ∈ TB := tb_3 225 rfl rfl
theorem qv_X11_road : Cond.instanceMethod yX11_road ∈ TB := tb_3 230 rfl rfl
theorem qe_X11_road : Cond.selects RX11 yX11_road yX11_road ∈ TB := tb_3 231 rfl rfl
theorem qo_X11_road : Cond.code yX11_road cX11_road 4 (some .int) ∈ TB := tb_3 232 rfl rfl
theorem qt_X11_isTown : Cond.static yX11_isTown ∈ TB := tb_3 234 rfl rfl
theorem qo_X11_isTown : Cond.code yX11_isTown cX11_isTown 1 (some .boolean) ∈ TB := tb_3 235 rfl rfl
theorem qv_X5_layRoadToGates : Cond.instanceMethod yX5_layRoadToGates ∈ TB := tb_3 237 rfl rfl
theorem qe_X5_layRoadToGates : Cond.selects RX5 yX5_layRoadToGates yX5_layRoadToGates ∈ TB := tb_3 238 rfl rfl
theorem qo_X5_layRoadToGates : Cond.code yX5_layRoadToGates cX5_layRoadToGates 4 (some .int) ∈ TB := tb_3 239 rfl rfl
theorem qv_X5_layRoad : Cond.instanceMethod yX5_layRoad ∈ TB := tb_4 1 rfl rfl
theorem qe_X5_layRoad : Cond.selects RX5 yX5_layRoad yX5_layRoad ∈ TB := tb_4 2 rfl rfl
theorem qo_X5_layRoad : Cond.code yX5_layRoad cX5_layRoad 5 (some .int) ∈ TB := tb_4 3 rfl rfl
theorem qv_X11_sick : Cond.instanceMethod yX11_sick ∈ TB := tb_4 5 rfl rfl
theorem qe_X11_sick : Cond.selects RX11 yX11_sick yX11_sick ∈ TB := tb_4 6 rfl rfl
theorem qo_X11_sick : Cond.code yX11_sick cX11_sick 4 (some .int) ∈ TB := tb_4 7 rfl rfl
theorem qv_X5_addSick : Cond.instanceMethod yX5_addSick ∈ TB := tb_4 9 rfl rfl
theorem qe_X5_addSick : Cond.selects RX5 yX5_addSick yX5_addSick ∈ TB := tb_4 10 rfl rfl
theorem qo_X5_addSick : Cond.code yX5_addSick cX5_addSick 4 (some .int) ∈ TB := tb_4 11 rfl rfl
theorem qv_X11_seal : Cond.instanceMethod yX11_seal ∈ TB := tb_4 13 rfl rfl
theorem qe_X11_seal : Cond.selects RX11 yX11_seal yX11_seal ∈ TB := tb_4 14 rfl rfl
theorem qo_X11_seal : Cond.code yX11_seal cX11_seal 6 (some .int) ∈ TB := tb_4 15 rfl rfl
theorem qv_X5_addPass : Cond.instanceMethod yX5_addPass ∈ TB := tb_4 19 rfl rfl
theorem qe_X5_addPass : Cond.selects RX5 yX5_addPass yX5_addPass ∈ TB := tb_4 20 rfl rfl
theorem qo_X5_addPass : Cond.code yX5_addPass cX5_addPass 5 (some .int) ∈ TB := tb_4 21 rfl rfl
theorem qv_X11_canbe : Cond.instanceMethod yX11_canbe ∈ TB := tb_4 24 rfl rfl
theorem qe_X11_canbe : Cond.selects RX11 yX11_canbe yX11_canbe ∈ TB := tb_4 25 rfl rfl
theorem qo_X11_canbe : Cond.code yX11_canbe cX11_canbe 2 (some .int) ∈ TB := tb_4 26 rfl rfl
theorem qt_X11_isPerson : Cond.static yX11_isPerson ∈ TB := tb_4 28 rfl rfl
theorem qo_X11_isPerson : Cond.code yX11_isPerson cX11_isPerson 1 (some .boolean) ∈ TB := tb_4 29 rfl rfl
theorem qv_X5_canBeTrue : Cond.instanceMethod yX5_canBeTrue ∈ TB := tb_4 31 rfl rfl
theorem qe_X5_canBeTrue : Cond.selects RX5 yX5_canBeTrue yX5_canBeTrue ∈ TB := tb_4 32 rfl rfl
theorem qo_X5_canBeTrue : Cond.code yX5_canBeTrue cX5_canBeTrue 5 (some .boolean) ∈ TB := tb_4 33 rfl rfl
theorem qv_X5_itemOf : Cond.instanceMethod yX5_itemOf ∈ TB := tb_4 35 rfl rfl
theorem qe_X5_itemOf : Cond.selects RX5 yX5_itemOf yX5_itemOf ∈ TB := tb_4 36 rfl rfl
theorem qo_X5_itemOf : Cond.code yX5_itemOf cX5_itemOf 3 (some .int) ∈ TB := tb_4 37 rfl rfl
theorem qv_X5_areFarEnough : Cond.instanceMethod yX5_areFarEnough ∈ TB := tb_4 40 rfl rfl
theorem qo_X5_areFarEnough : Cond.code yX5_areFarEnough cX5_areFarEnough 4 (some .boolean) ∈ TB := tb_4 41 rfl rfl
theorem qt_J9_abs_0f7a4 : Cond.static yJ9_abs_0f7a4 ∈ TB := tb_4 43 rfl rfl
theorem qo_J9_abs_0f7a4 : Cond.code yJ9_abs_0f7a4 cJ9_abs_0f7a4 1 (some .int) ∈ TB := tb_4 44 rfl rfl
theorem qv_X11_lets : Cond.instanceMethod yX11_lets ∈ TB := tb_4 46 rfl rfl
theorem qe_X11_lets : Cond.selects RX11 yX11_lets yX11_lets ∈ TB := tb_4 47 rfl rfl
theorem qo_X11_lets : Cond.code yX11_lets cX11_lets 5 (some .int) ∈ TB := tb_4 48 rfl rfl
theorem qv_X11_isPass : Cond.instanceMethod yX11_isPass ∈ TB := tb_4 51 rfl rfl
theorem qo_X11_isPass : Cond.code yX11_isPass cX11_isPass 2 (some .boolean) ∈ TB := tb_4 52 rfl rfl
theorem qv_X5_letsIn : Cond.instanceMethod yX5_letsIn ∈ TB := tb_4 54 rfl rfl
theorem qe_X5_letsIn : Cond.selects RX5 yX5_letsIn yX5_letsIn ∈ TB := tb_4 55 rfl rfl
theorem qo_X5_letsIn : Cond.code yX5_letsIn cX5_letsIn 5 (some .boolean) ∈ TB := tb_4 56 rfl rfl
theorem qv_X5_isForged : Cond.instanceMethod yX5_isForged ∈ TB := tb_4 60 rfl rfl
theorem qo_X5_isForged : Cond.code yX5_isForged cX5_isForged 4 (some .boolean) ∈ TB := tb_4 61 rfl rfl
theorem qv_X5_wasSick : Cond.instanceMethod yX5_wasSick ∈ TB := tb_4 64 rfl rfl
theorem qo_X5_wasSick : Cond.code yX5_wasSick cX5_wasSick 4 (some .boolean) ∈ TB := tb_4 65 rfl rfl
theorem qv_X5_isSealOfOtherHand : Cond.instanceMethod yX5_isSealOfOtherHand ∈ TB := tb_4 69 rfl rfl
theorem qo_X5_isSealOfOtherHand : Cond.code yX5_isSealOfOtherHand cX5_isSealOfOtherHand 3 (some .boolean) ∈ TB := tb_4 70 rfl rfl
theorem qv_X11_dusk : Cond.instanceMethod yX11_dusk ∈ TB := tb_4 73 rfl rfl
theorem qe_X11_dusk : Cond.selects RX11 yX11_dusk yX11_dusk ∈ TB := tb_4 74 rfl rfl
theorem qo_X11_dusk : Cond.code yX11_dusk cX11_dusk 5 (some .int) ∈ TB := tb_4 75 rfl rfl
theorem qv_X4_firstIn : Cond.instanceMethod yX4_firstIn ∈ TB := tb_4 77 rfl rfl
theorem qe_X4_firstIn : Cond.selects RX4 yX4_firstIn yX4_firstIn ∈ TB := tb_4 78 rfl rfl
theorem qo_X4_firstIn : Cond.code yX4_firstIn cX4_firstIn 10 (some .int) ∈ TB := tb_4 79 rfl rfl
theorem qt_J9_max_7cf53 : Cond.static yJ9_max_7cf53 ∈ TB := tb_4 83 rfl rfl
theorem qo_J9_max_7cf53 : Cond.code yJ9_max_7cf53 cJ9_max_7cf53 2 (some .int) ∈ TB := tb_4 84 rfl rfl
theorem qv_X11_clerks : Cond.instanceMethod yX11_clerks ∈ TB := tb_4 86 rfl rfl
theorem qe_X11_clerks : Cond.selects RX11 yX11_clerks yX11_clerks ∈ TB := tb_4 87 rfl rfl
theorem qo_X11_clerks : Cond.code yX11_clerks cX11_clerks 11 (some .int) ∈ TB := tb_4 88 rfl rfl
theorem qv_X6_clear : Cond.instanceMethod yX6_clear ∈ TB := tb_4 90 rfl rfl
theorem qe_X6_clear : Cond.selects RX6 yX6_clear yX6_clear ∈ TB := tb_4 91 rfl rfl
theorem qo_X6_clear : Cond.code yX6_clear cX6_clear 1 none ∈ TB := tb_4 92 rfl rfl
theorem qv_X6_comes : Cond.instanceMethod yX6_comes ∈ TB := tb_4 94 rfl rfl
theorem qe_X6_comes : Cond.selects RX6 yX6_comes yX6_comes ∈ TB := tb_4 95 rfl rfl
theorem qo_X6_comes : Cond.code yX6_comes cX6_comes 4 none ∈ TB := tb_4 96 rfl rfl
theorem qv_X6_shareOut : Cond.instanceMethod yX6_shareOut ∈ TB := tb_4 98 rfl rfl
theorem qe_X6_shareOut : Cond.selects RX6 yX6_shareOut yX6_shareOut ∈ TB := tb_4 99 rfl rfl
theorem qo_X6_shareOut : Cond.code yX6_shareOut cX6_shareOut 6 (some .boolean) ∈ TB := tb_4 100 rfl rfl
theorem qv_X6_waitedAt : Cond.instanceMethod yX6_waitedAt ∈ TB := tb_4 103 rfl rfl
theorem qo_X6_waitedAt : Cond.code yX6_waitedAt cX6_waitedAt 8 (some .int) ∈ TB := tb_4 104 rfl rfl
theorem qv_X6_firstFree : Cond.instanceMethod yX6_firstFree ∈ TB := tb_4 107 rfl rfl
theorem qo_X6_firstFree : Cond.code yX6_firstFree cX6_firstFree 4 (some .int) ∈ TB := tb_4 108 rfl rfl
theorem qv_X6_tryWay : Cond.instanceMethod yX6_tryWay ∈ TB := tb_4 112 rfl rfl
theorem qo_X6_tryWay : Cond.code yX6_tryWay cX6_tryWay 10 none ∈ TB := tb_4 113 rfl rfl
theorem qv_X11_guest : Cond.instanceMethod yX11_guest ∈ TB := tb_4 115 rfl rfl
theorem qe_X11_guest : Cond.selects RX11 yX11_guest yX11_guest ∈ TB := tb_4 116 rfl rfl
theorem qo_X11_guest : Cond.code yX11_guest cX11_guest 5 (some .int) ∈ TB := tb_4 117 rfl rfl
theorem qt_X11_isHouse : Cond.static yX11_isHouse ∈ TB := tb_4 119 rfl rfl
theorem qo_X11_isHouse : Cond.code yX11_isHouse cX11_isHouse 1 (some .boolean) ∈ TB := tb_4 120 rfl rfl
theorem qv_X9_addGuest : Cond.instanceMethod yX9_addGuest ∈ TB := tb_4 122 rfl rfl
theorem qe_X9_addGuest : Cond.selects RX9 yX9_addGuest yX9_addGuest ∈ TB := tb_4 123 rfl rfl
theorem qo_X9_addGuest : Cond.code yX9_addGuest cX9_addGuest 5 (some .int) ∈ TB := tb_4 124 rfl rfl
theorem qv_X11_fell : Cond.instanceMethod yX11_fell ∈ TB := tb_4 126 rfl rfl
theorem qe_X11_fell : Cond.selects RX11 yX11_fell yX11_fell ∈ TB := tb_4 127 rfl rfl
theorem qo_X11_fell : Cond.code yX11_fell cX11_fell 3 (some .int) ∈ TB := tb_4 128 rfl rfl
theorem qv_X9_addCase : Cond.instanceMethod yX9_addCase ∈ TB := tb_4 130 rfl rfl
theorem qe_X9_addCase : Cond.selects RX9 yX9_addCase yX9_addCase ∈ TB := tb_4 131 rfl rfl
theorem qo_X9_addCase : Cond.code yX9_addCase cX9_addCase 3 (some .boolean) ∈ TB := tb_4 132 rfl rfl
theorem qv_X11_brought : Cond.instanceMethod yX11_brought ∈ TB := tb_4 134 rfl rfl
theorem qe_X11_brought : Cond.selects RX11 yX11_brought yX11_brought ∈ TB := tb_4 135 rfl rfl
theorem qo_X11_brought : Cond.code yX11_brought cX11_brought 2 (some .int) ∈ TB := tb_4 136 rfl rfl
theorem qv_X9_tellWhoMay : Cond.instanceMethod yX9_tellWhoMay ∈ TB := tb_4 138 rfl rfl
theorem qe_X9_tellWhoMay : Cond.selects RX9 yX9_tellWhoMay yX9_tellWhoMay ∈ TB := tb_4 139 rfl rfl
theorem qo_X9_tellWhoMay : Cond.code yX9_tellWhoMay cX9_tellWhoMay 4 none ∈ TB := tb_4 140 rfl rfl
theorem qv_X3_anyUse : Cond.instanceMethod yX3_anyUse ∈ TB := tb_4 142 rfl rfl
theorem qe_X3_anyUse : Cond.selects RX3 yX3_anyUse yX3_anyUse ∈ TB := tb_4 143 rfl rfl
theorem qo_X3_anyUse : Cond.code yX3_anyUse cX3_anyUse 4 (some .int) ∈ TB := tb_4 144 rfl rfl
theorem qv_X9_housesWithCases : Cond.instanceMethod yX9_housesWithCases ∈ TB := tb_4 146 rfl rfl
theorem qe_X9_housesWithCases : Cond.selects RX9 yX9_housesWithCases yX9_housesWithCases ∈ TB := tb_4 147 rfl rfl
theorem qo_X9_housesWithCases : Cond.code yX9_housesWithCases cX9_housesWithCases 3 (some .int) ∈ TB := tb_4 148 rfl rfl
theorem qv_X3_search : Cond.instanceMethod yX3_search ∈ TB := tb_4 150 rfl rfl
theorem qe_X3_search : Cond.selects RX3 yX3_search yX3_search ∈ TB := tb_4 151 rfl rfl
theorem qo_X3_search : Cond.code yX3_search cX3_search 6 none ∈ TB := tb_4 152 rfl rfl
theorem qv_X3_doCover : Cond.instanceMethod yX3_doCover ∈ TB := tb_4 156 rfl rfl
theorem qo_X3_doCover : Cond.code yX3_doCover cX3_doCover 6 (some .boolean) ∈ TB := tb_4 157 rfl rfl
theorem qv_X11_high : Cond.instanceMethod yX11_high ∈ TB := tb_4 160 rfl rfl
theorem qe_X11_high : Cond.selects RX11 yX11_high yX11_high ∈ TB := tb_4 161 rfl rfl
theorem qo_X11_high : Cond.code yX11_high cX11_high 4 (some .int) ∈ TB := tb_4 162 rfl rfl
theorem qt_X11_isLength : Cond.static yX11_isLength ∈ TB := tb_4 164 rfl rfl
theorem qo_X11_isLength : Cond.code yX11_isLength cX11_isLength 1 (some .boolean) ∈ TB := tb_4 165 rfl rfl
theorem qv_X11_lean : Cond.instanceMethod yX11_lean ∈ TB := tb_4 167 rfl rfl
theorem qe_X11_lean : Cond.selects RX11 yX11_lean yX11_lean ∈ TB := tb_4 168 rfl rfl
theorem qo_X11_lean : Cond.code yX11_lean cX11_lean 4 (some .int) ∈ TB := tb_4 169 rfl rfl
theorem qv_X10_addHouse : Cond.instanceMethod yX10_addHouse ∈ TB := tb_4 171 rfl rfl
theorem qe_X10_addHouse : Cond.selects RX10 yX10_addHouse yX10_addHouse ∈ TB := tb_4 172 rfl rfl
theorem qo_X10_addHouse : Cond.code yX10_addHouse cX10_addHouse 4 (some .int) ∈ TB := tb_4 173 rfl rfl
theorem qv_X11_breaches : Cond.instanceMethod yX11_breaches ∈ TB := tb_4 176 rfl rfl
theorem qe_X11_breaches : Cond.selects RX11 yX11_breaches yX11_breaches ∈ TB := tb_4 177 rfl rfl
theorem qo_X11_breaches : Cond.code yX11_breaches cX11_breaches 1 (some .int) ∈ TB := tb_4 178 rfl rfl
theorem qv_X10_passable : Cond.instanceMethod yX10_passable ∈ TB := tb_4 180 rfl rfl
theorem qe_X10_passable : Cond.selects RX10 yX10_passable yX10_passable ∈ TB := tb_4 181 rfl rfl
theorem qo_X10_passable : Cond.code yX10_passable cX10_passable 3 (some .int) ∈ TB := tb_4 182 rfl rfl
theorem qv_X11_watch : Cond.instanceMethod yX11_watch ∈ TB := tb_4 184 rfl rfl
theorem qe_X11_watch : Cond.selects RX11 yX11_watch yX11_watch ∈ TB := tb_4 185 rfl rfl
theorem qo_X11_watch : Cond.code yX11_watch cX11_watch 7 (some .int) ∈ TB := tb_4 186 rfl rfl
theorem qv_X11_day : Cond.instanceMethod yX11_day ∈ TB := tb_4 188 rfl rfl
theorem qe_X11_day : Cond.selects RX11 yX11_day yX11_day ∈ TB := tb_4 189 rfl rfl
theorem qo_X11_day : Cond.code yX11_day cX11_day 3 (some .int) ∈ TB := tb_4 190 rfl rfl
theorem qv_X11_kind : Cond.instanceMethod yX11_kind ∈ TB := tb_4 192 rfl rfl
theorem qe_X11_kind : Cond.selects RX11 yX11_kind yX11_kind ∈ TB := tb_4 193 rfl rfl
theorem qo_X11_kind : Cond.code yX11_kind cX11_kind 2 (some .int) ∈ TB := tb_4 194 rfl rfl
theorem qv_X5_kindOn : Cond.instanceMethod yX5_kindOn ∈ TB := tb_4 196 rfl rfl
theorem qe_X5_kindOn : Cond.selects RX5 yX5_kindOn yX5_kindOn ∈ TB := tb_4 197 rfl rfl
theorem qo_X5_kindOn : Cond.code yX5_kindOn cX5_kindOn 3 (some .int) ∈ TB := tb_4 198 rfl rfl
theorem qv_X11_as : Cond.instanceMethod yX11_as ∈ TB := tb_4 200 rfl rfl
theorem qe_X11_as : Cond.selects RX11 yX11_as yX11_as ∈ TB := tb_4 201 rfl rfl
theorem qo_X11_as : Cond.code yX11_as cX11_as 3 (some .int) ∈ TB := tb_4 202 rfl rfl
theorem qv_X5_isOfKind : Cond.instanceMethod yX5_isOfKind ∈ TB := tb_4 204 rfl rfl
theorem qe_X5_isOfKind : Cond.selects RX5 yX5_isOfKind yX5_isOfKind ∈ TB := tb_4 205 rfl rfl
theorem qo_X5_isOfKind : Cond.code yX5_isOfKind cX5_isOfKind 5 (some .boolean) ∈ TB := tb_4 206 rfl rfl
theorem qv_X11_ask : Cond.instanceMethod yX11_ask ∈ TB := tb_4 210 rfl rfl
theorem qe_X11_ask : Cond.selects RX11 yX11_ask yX11_ask ∈ TB := tb_4 211 rfl rfl
theorem qo_X11_ask : Cond.code yX11_ask cX11_ask 4 (some .int) ∈ TB := tb_4 212 rfl rfl
theorem qv_X0_sizeOf : Cond.instanceMethod yX0_sizeOf ∈ TB := tb_4 214 rfl rfl
theorem qe_X0_sizeOf : Cond.selects RX0 yX0_sizeOf yX0_sizeOf ∈ TB := tb_4 215 rfl rfl
theorem qo_X0_sizeOf : Cond.code yX0_sizeOf cX0_sizeOf 3 (some .int) ∈ TB := tb_4 216 rfl rfl
theorem qv_X0_tollSize : Cond.instanceMethod yX0_tollSize ∈ TB := tb_4 219 rfl rfl
theorem qo_X0_tollSize : Cond.code yX0_tollSize cX0_tollSize 2 (some .int) ∈ TB := tb_4 220 rfl rfl
theorem qv_X0_leave : Cond.instanceMethod yX0_leave ∈ TB := tb_4 223 rfl rfl
theorem qo_X0_leave : Cond.code yX0_leave cX0_leave 2 none ∈ TB := tb_4 224 rfl rfl
theorem qv_X0_lentSize : Cond.instanceMethod yX0_lentSize ∈ TB := tb_4 227 rfl rfl
theorem qo_X0_lentSize : Cond.code yX0_lentSize cX0_lentSize 2 (some .int) ∈ TB := tb_4 228 rfl rfl
theorem qv_X0_healthSize : Cond.instanceMethod yX0_healthSize ∈ TB := tb_4 232 rfl rfl
theorem qo_X0_healthSize : Cond.code yX0_healthSize cX0_healthSize 4 (some .int) ∈ TB := tb_4 233 rfl rfl
theorem qv_X0_forgedMark : Cond.instanceMethod yX0_forgedMark ∈ TB := tb_4 236 rfl rfl
theorem qo_X0_forgedMark : Cond.code yX0_forgedMark cX0_forgedMark 2 (some .int) ∈ TB := tb_4 237 rfl rfl
theorem qv_X0_healthMark : Cond.instanceMethod yX0_healthMark ∈ TB := tb_5 0 rfl rfl
theorem qo_X0_healthMark : Cond.code yX0_healthMark cX0_healthMark 2 (some .int) ∈ TB := tb_5 1 rfl rfl
theorem qv_X0_lentMark : Cond.instanceMethod yX0_lentMark ∈ TB := tb_5 4 rfl rfl
theorem qo_X0_lentMark : Cond.code yX0_lentMark cX0_lentMark 2 (some .int) ∈ TB := tb_5 5 rfl rfl
theorem qv_X0_forgedSize : Cond.instanceMethod yX0_forgedSize ∈ TB := tb_5 8 rfl rfl
theorem qo_X0_forgedSize : Cond.code yX0_forgedSize cX0_forgedSize 2 (some .int) ∈ TB := tb_5 9 rfl rfl
theorem qv_X0_nightSize : Cond.instanceMethod yX0_nightSize ∈ TB := tb_5 12 rfl rfl
theorem qo_X0_nightSize : Cond.code yX0_nightSize cX0_nightSize 2 (some .int) ∈ TB := tb_5 13 rfl rfl
theorem qv_X0_markOf : Cond.instanceMethod yX0_markOf ∈ TB := tb_5 15 rfl rfl
theorem qe_X0_markOf : Cond.selects RX0 yX0_markOf yX0_markOf ∈ TB := tb_5 16 rfl rfl
theorem qo_X0_markOf : Cond.code yX0_markOf cX0_markOf 3 (some .int) ∈ TB := tb_5 17 rfl rfl
theorem qv_X0_nightMark : Cond.instanceMethod yX0_nightMark ∈ TB := tb_5 20 rfl rfl
theorem qo_X0_nightMark : Cond.code yX0_nightMark cX0_nightMark 3 (some .int) ∈ TB := tb_5 21 rfl rfl
theorem qv_X11_trace : Cond.instanceMethod yX11_trace ∈ TB := tb_5 23 rfl rfl
theorem qe_X11_trace : Cond.selects RX11 yX11_trace yX11_trace ∈ TB := tb_5 24 rfl rfl
theorem qo_X11_trace : Cond.code yX11_trace cX11_trace 2 (some .int) ∈ TB := tb_5 25 rfl rfl
theorem qv_X11_count : Cond.instanceMethod yX11_count ∈ TB := tb_5 27 rfl rfl
theorem qe_X11_count : Cond.selects RX11 yX11_count yX11_count ∈ TB := tb_5 28 rfl rfl
theorem qo_X11_count : Cond.code yX11_count cX11_count 2 (some .int) ∈ TB := tb_5 29 rfl rfl
theorem qv_X8_present : Cond.instanceMethod yX8_present ∈ TB := tb_5 31 rfl rfl
theorem qe_X8_present : Cond.selects RX8 yX8_present yX8_present ∈ TB := tb_5 32 rfl rfl
theorem qo_X8_present : Cond.code yX8_present cX8_present 3 (some .int) ∈ TB := tb_5 33 rfl rfl
theorem qv_X5_howMany : Cond.instanceMethod yX5_howMany ∈ TB := tb_5 36 rfl rfl
theorem qe_X5_howMany : Cond.selects RX5 yX5_howMany yX5_howMany ∈ TB := tb_5 37 rfl rfl
theorem qo_X5_howMany : Cond.code yX5_howMany cX5_howMany 5 (some .int) ∈ TB := tb_5 38 rfl rfl
theorem qv_X11_status : Cond.instanceMethod yX11_status ∈ TB := tb_5 42 rfl rfl
theorem qe_X11_status : Cond.selects RX11 yX11_status yX11_status ∈ TB := tb_5 43 rfl rfl
theorem qo_X11_status : Cond.code yX11_status cX11_status 1 (some .int) ∈ TB := tb_5 44 rfl rfl
theorem qv_X12_init : Cond.instanceMethod yX12_init ∈ TB := tb_5 48 rfl rfl
theorem qo_X12_init : Cond.code yX12_init cX12_init 2 none ∈ TB := tb_5 49 rfl rfl
theorem qv_X12_sheet : Cond.instanceMethod yX12_sheet ∈ TB := tb_5 237 rfl rfl
theorem qe_X12_sheet : Cond.selects RX12 yX12_sheet yX12_sheet ∈ TB := tb_5 238 rfl rfl
theorem qo_X12_sheet : Cond.code yX12_sheet cX12_sheet 5 (some .int) ∈ TB := tb_5 239 rfl rfl
theorem qt_X12_isSheet : Cond.static yX12_isSheet ∈ TB := tb_6 1 rfl rfl
theorem qo_X12_isSheet : Cond.code yX12_isSheet cX12_isSheet 1 (some .boolean) ∈ TB := tb_6 2 rfl rfl
theorem qt_X12_in : Cond.static yX12_in ∈ TB := tb_6 5 rfl rfl
theorem qo_X12_in : Cond.code yX12_in cX12_in 6 (some .boolean) ∈ TB := tb_6 6 rfl rfl
theorem qv_X12_finding : Cond.instanceMethod yX12_finding ∈ TB := tb_6 11 rfl rfl
theorem qo_X12_finding : Cond.code yX12_finding cX12_finding 2 (some .int) ∈ TB := tb_6 12 rfl rfl
theorem qv_X12_set : Cond.instanceMethod yX12_set ∈ TB := tb_6 15 rfl rfl
theorem qe_X12_set : Cond.selects RX12 yX12_set yX12_set ∈ TB := tb_6 16 rfl rfl
theorem qo_X12_set : Cond.code yX12_set cX12_set 4 (some .int) ∈ TB := tb_6 17 rfl rfl
theorem qv_X12_copy : Cond.instanceMethod yX12_copy ∈ TB := tb_6 19 rfl rfl
theorem qe_X12_copy : Cond.selects RX12 yX12_copy yX12_copy ∈ TB := tb_6 20 rfl rfl
theorem qo_X12_copy : Cond.code yX12_copy cX12_copy 9 (some .int) ∈ TB := tb_6 21 rfl rfl
theorem qv_X12_drop : Cond.instanceMethod yX12_drop ∈ TB := tb_6 23 rfl rfl
theorem qe_X12_drop : Cond.selects RX12 yX12_drop yX12_drop ∈ TB := tb_6 24 rfl rfl
theorem qo_X12_drop : Cond.code yX12_drop cX12_drop 2 (some .int) ∈ TB := tb_6 25 rfl rfl
theorem qv_X12_bell : Cond.instanceMethod yX12_bell ∈ TB := tb_6 27 rfl rfl
theorem qe_X12_bell : Cond.selects RX12 yX12_bell yX12_bell ∈ TB := tb_6 28 rfl rfl
theorem qo_X12_bell : Cond.code yX12_bell cX12_bell 4 (some .int) ∈ TB := tb_6 29 rfl rfl
theorem qt_X12_isGate : Cond.static yX12_isGate ∈ TB := tb_6 31 rfl rfl
theorem qo_X12_isGate : Cond.code yX12_isGate cX12_isGate 1 (some .boolean) ∈ TB := tb_6 32 rfl rfl
theorem qt_X12_isMinute : Cond.static yX12_isMinute ∈ TB := tb_6 35 rfl rfl
theorem qo_X12_isMinute : Cond.code yX12_isMinute cX12_isMinute 1 (some .boolean) ∈ TB := tb_6 36 rfl rfl
theorem qv_X12_part : Cond.instanceMethod yX12_part ∈ TB := tb_6 40 rfl rfl
theorem qe_X12_part : Cond.selects RX12 yX12_part yX12_part ∈ TB := tb_6 41 rfl rfl
theorem qo_X12_part : Cond.code yX12_part cX12_part 4 (some .int) ∈ TB := tb_6 42 rfl rfl
theorem qv_X12_stands : Cond.instanceMethod yX12_stands ∈ TB := tb_6 45 rfl rfl
theorem qe_X12_stands : Cond.selects RX12 yX12_stands yX12_stands ∈ TB := tb_6 46 rfl rfl
theorem qo_X12_stands : Cond.code yX12_stands cX12_stands 4 (some .int) ∈ TB := tb_6 47 rfl rfl
theorem qt_X12_isSpot : Cond.static yX12_isSpot ∈ TB := tb_6 49 rfl rfl
theorem qo_X12_isSpot : Cond.code yX12_isSpot cX12_isSpot 2 (some .boolean) ∈ TB := tb_6 50 rfl rfl
theorem qv_X12_feed : Cond.instanceMethod yX12_feed ∈ TB := tb_6 53 rfl rfl
theorem qe_X12_feed : Cond.selects RX12 yX12_feed yX12_feed ∈ TB := tb_6 54 rfl rfl
theorem qo_X12_feed : Cond.code yX12_feed cX12_feed 5 (some .int) ∈ TB := tb_6 55 rfl rfl
theorem qv_X12_laws : Cond.instanceMethod yX12_laws ∈ TB := tb_6 59 rfl rfl
theorem qe_X12_laws : Cond.selects RX12 yX12_laws yX12_laws ∈ TB := tb_6 60 rfl rfl
theorem qo_X12_laws : Cond.code yX12_laws cX12_laws 3 (some .int) ∈ TB := tb_6 61 rfl rfl
theorem qv_X12_step : Cond.instanceMethod yX12_step ∈ TB := tb_6 64 rfl rfl
theorem qo_X12_step : Cond.code yX12_step cX12_step 2 none ∈ TB := tb_6 65 rfl rfl
theorem qv_X12_byteAt : Cond.instanceMethod yX12_byteAt ∈ TB := tb_6 68 rfl rfl
theorem qo_X12_byteAt : Cond.code yX12_byteAt cX12_byteAt 2 (some .int) ∈ TB := tb_6 69 rfl rfl
theorem qt_X12_isLetter : Cond.static yX12_isLetter ∈ TB := tb_6 71 rfl rfl
theorem qo_X12_isLetter : Cond.code yX12_isLetter cX12_isLetter 1 (some .boolean) ∈ TB := tb_6 72 rfl rfl
theorem qt_X12_isFigure : Cond.static yX12_isFigure ∈ TB := tb_6 74 rfl rfl
theorem qo_X12_isFigure : Cond.code yX12_isFigure cX12_isFigure 1 (some .boolean) ∈ TB := tb_6 75 rfl rfl
theorem qv_X12_word : Cond.instanceMethod yX12_word ∈ TB := tb_6 78 rfl rfl
theorem qo_X12_word : Cond.code yX12_word cX12_word 4 (some .long) ∈ TB := tb_6 79 rfl rfl
theorem qv_X12_need : Cond.instanceMethod yX12_need ∈ TB := tb_6 83 rfl rfl
theorem qo_X12_need : Cond.code yX12_need cX12_need 2 none ∈ TB := tb_6 84 rfl rfl
theorem qv_X12_bad : Cond.instanceMethod yX12_bad ∈ TB := tb_6 87 rfl rfl
theorem qo_X12_bad : Cond.code yX12_bad cX12_bad 2 none ∈ TB := tb_6 88 rfl rfl
theorem qv_X12_numberTo : Cond.instanceMethod yX12_numberTo ∈ TB := tb_6 91 rfl rfl
theorem qo_X12_numberTo : Cond.code yX12_numberTo cX12_numberTo 4 (some .int) ∈ TB := tb_6 92 rfl rfl
theorem qv_X12_readLaw : Cond.instanceMethod yX12_readLaw ∈ TB := tb_6 95 rfl rfl
theorem qo_X12_readLaw : Cond.code yX12_readLaw cX12_readLaw 3 none ∈ TB := tb_6 96 rfl rfl
theorem qv_X12_lawOfWord : Cond.instanceMethod yX12_lawOfWord ∈ TB := tb_6 99 rfl rfl
theorem qo_X12_lawOfWord : Cond.code yX12_lawOfWord cX12_lawOfWord 3 (some .int) ∈ TB := tb_6 100 rfl rfl
theorem qv_X12_fault : Cond.instanceMethod yX12_fault ∈ TB := tb_6 110 rfl rfl
theorem qe_X12_fault : Cond.selects RX12 yX12_fault yX12_fault ∈ TB := tb_6 111 rfl rfl
theorem qo_X12_fault : Cond.code yX12_fault cX12_fault 1 (some .int) ∈ TB := tb_6 112 rfl rfl
theorem qv_X12_holds : Cond.instanceMethod yX12_holds ∈ TB := tb_6 114 rfl rfl
theorem qe_X12_holds : Cond.selects RX12 yX12_holds yX12_holds ∈ TB := tb_6 115 rfl rfl
theorem qo_X12_holds : Cond.code yX12_holds cX12_holds 3 (some .int) ∈ TB := tb_6 116 rfl rfl
theorem qt_X12_isDay : Cond.static yX12_isDay ∈ TB := tb_6 118 rfl rfl
theorem qo_X12_isDay : Cond.code yX12_isDay cX12_isDay 1 (some .boolean) ∈ TB := tb_6 119 rfl rfl
theorem qv_X12_numberFor : Cond.instanceMethod yX12_numberFor ∈ TB := tb_6 122 rfl rfl
theorem qo_X12_numberFor : Cond.code yX12_numberFor cX12_numberFor 5 (some .int) ∈ TB := tb_6 123 rfl rfl
theorem qv_X12_lawFor : Cond.instanceMethod yX12_lawFor ∈ TB := tb_6 126 rfl rfl
theorem qo_X12_lawFor : Cond.code yX12_lawFor cX12_lawFor 8 (some .int) ∈ TB := tb_6 127 rfl rfl
theorem qv_X12_isGood : Cond.instanceMethod yX12_isGood ∈ TB := tb_6 136 rfl rfl
theorem qo_X12_isGood : Cond.code yX12_isGood cX12_isGood 4 (some .boolean) ∈ TB := tb_6 137 rfl rfl
theorem qv_X12_isBanned : Cond.instanceMethod yX12_isBanned ∈ TB := tb_6 142 rfl rfl
theorem qo_X12_isBanned : Cond.code yX12_isBanned cX12_isBanned 4 (some .boolean) ∈ TB := tb_6 143 rfl rfl
theorem qv_X12_cart : Cond.instanceMethod yX12_cart ∈ TB := tb_6 145 rfl rfl
theorem qe_X12_cart : Cond.selects RX12 yX12_cart yX12_cart ∈ TB := tb_6 146 rfl rfl
theorem qo_X12_cart : Cond.code yX12_cart cX12_cart 6 (some .int) ∈ TB := tb_6 147 rfl rfl
theorem qv_X12_lookItems : Cond.instanceMethod yX12_lookItems ∈ TB := tb_6 150 rfl rfl
theorem qo_X12_lookItems : Cond.code yX12_lookItems cX12_lookItems 4 (some .int) ∈ TB := tb_6 151 rfl rfl
theorem qv_X12_owed : Cond.instanceMethod yX12_owed ∈ TB := tb_6 155 rfl rfl
theorem qe_X12_owed : Cond.selects RX12 yX12_owed yX12_owed ∈ TB := tb_6 156 rfl rfl
theorem qo_X12_owed : Cond.code yX12_owed cX12_owed 6 (some .int) ∈ TB := tb_6 157 rfl rfl
theorem qv_X12_isCart : Cond.instanceMethod yX12_isCart ∈ TB := tb_6 160 rfl rfl
theorem qo_X12_isCart : Cond.code yX12_isCart cX12_isCart 2 (some .boolean) ∈ TB := tb_6 161 rfl rfl
theorem qv_X12_owedBy : Cond.instanceMethod yX12_owedBy ∈ TB := tb_6 164 rfl rfl
theorem qo_X12_owedBy : Cond.code yX12_owedBy cX12_owedBy 7 (some .int) ∈ TB := tb_6 165 rfl rfl
theorem qv_X12_pass : Cond.instanceMethod yX12_pass ∈ TB := tb_6 167 rfl rfl
theorem qe_X12_pass : Cond.selects RX12 yX12_pass yX12_pass ∈ TB := tb_6 168 rfl rfl
theorem qo_X12_pass : Cond.code yX12_pass cX12_pass 7 (some .int) ∈ TB := tb_6 169 rfl rfl
theorem qv_X12_agree : Cond.instanceMethod yX12_agree ∈ TB := tb_6 172 rfl rfl
theorem qe_X12_agree : Cond.selects RX12 yX12_agree yX12_agree ∈ TB := tb_6 173 rfl rfl
theorem qo_X12_agree : Cond.code yX12_agree cX12_agree 2 (some .int) ∈ TB := tb_6 174 rfl rfl
theorem qv_X12_goThrough : Cond.instanceMethod yX12_goThrough ∈ TB := tb_6 177 rfl rfl
theorem qo_X12_goThrough : Cond.code yX12_goThrough cX12_goThrough 10 none ∈ TB := tb_6 178 rfl rfl
theorem qv_X12_isOpen : Cond.instanceMethod yX12_isOpen ∈ TB := tb_6 181 rfl rfl
theorem qo_X12_isOpen : Cond.code yX12_isOpen cX12_isOpen 3 (some .boolean) ∈ TB := tb_6 182 rfl rfl
theorem qv_X12_amiss : Cond.instanceMethod yX12_amiss ∈ TB := tb_6 184 rfl rfl
theorem qe_X12_amiss : Cond.selects RX12 yX12_amiss yX12_amiss ∈ TB := tb_6 185 rfl rfl
theorem qo_X12_amiss : Cond.code yX12_amiss cX12_amiss 7 (some .int) ∈ TB := tb_6 186 rfl rfl
theorem qv_X12_road : Cond.instanceMethod yX12_road ∈ TB := tb_6 188 rfl rfl
theorem qe_X12_road : Cond.selects RX12 yX12_road yX12_road ∈ TB := tb_6 189 rfl rfl
theorem qo_X12_road : Cond.code yX12_road cX12_road 6 (some .int) ∈ TB := tb_6 190 rfl rfl
theorem qt_X12_isTown : Cond.static yX12_isTown ∈ TB := tb_6 192 rfl rfl
theorem qo_X12_isTown : Cond.code yX12_isTown cX12_isTown 1 (some .boolean) ∈ TB := tb_6 193 rfl rfl
theorem qv_X12_sick : Cond.instanceMethod yX12_sick ∈ TB := tb_6 196 rfl rfl
theorem qe_X12_sick : Cond.selects RX12 yX12_sick yX12_sick ∈ TB := tb_6 197 rfl rfl
theorem qo_X12_sick : Cond.code yX12_sick cX12_sick 4 (some .int) ∈ TB := tb_6 198 rfl rfl
theorem qv_X12_seal : Cond.instanceMethod yX12_seal ∈ TB := tb_6 200 rfl rfl
theorem qe_X12_seal : Cond.selects RX12 yX12_seal yX12_seal ∈ TB := tb_6 201 rfl rfl
theorem qo_X12_seal : Cond.code yX12_seal cX12_seal 6 (some .int) ∈ TB := tb_6 202 rfl rfl
theorem qt_X12_isPerson : Cond.static yX12_isPerson ∈ TB := tb_6 205 rfl rfl
theorem qo_X12_isPerson : Cond.code yX12_isPerson cX12_isPerson 1 (some .boolean) ∈ TB := tb_6 206 rfl rfl
theorem qv_X12_canbe : Cond.instanceMethod yX12_canbe ∈ TB := tb_6 210 rfl rfl
theorem qe_X12_canbe : Cond.selects RX12 yX12_canbe yX12_canbe ∈ TB := tb_6 211 rfl rfl
theorem qo_X12_canbe : Cond.code yX12_canbe cX12_canbe 7 (some .int) ∈ TB := tb_6 212 rfl rfl
theorem qv_X12_on : Cond.instanceMethod yX12_on ∈ TB := tb_6 215 rfl rfl
theorem qo_X12_on : Cond.code yX12_on cX12_on 3 (some .int) ∈ TB := tb_6 216 rfl rfl
theorem qv_X12_lets : Cond.instanceMethod yX12_lets ∈ TB := tb_6 218 rfl rfl
theorem qe_X12_lets : Cond.selects RX12 yX12_lets yX12_lets ∈ TB := tb_6 219 rfl rfl
theorem qo_X12_lets : Cond.code yX12_lets cX12_lets 6 (some .int) ∈ TB := tb_6 220 rfl rfl
theorem qv_X12_isPass : Cond.instanceMethod yX12_isPass ∈ TB := tb_6 223 rfl rfl
theorem qo_X12_isPass : Cond.code yX12_isPass cX12_isPass 2 (some .boolean) ∈ TB := tb_6 224 rfl rfl
theorem qv_X12_isForged : Cond.instanceMethod yX12_isForged ∈ TB := tb_6 227 rfl rfl
theorem qo_X12_isForged : Cond.code yX12_isForged cX12_isForged 5 (some .boolean) ∈ TB := tb_6 228 rfl rfl
theorem qv_X12_dusk : Cond.instanceMethod yX12_dusk ∈ TB := tb_6 230 rfl rfl
theorem qe_X12_dusk : Cond.selects RX12 yX12_dusk yX12_dusk ∈ TB := tb_6 231 rfl rfl
theorem qo_X12_dusk : Cond.code yX12_dusk cX12_dusk 9 (some .int) ∈ TB := tb_6 232 rfl rfl
theorem qt_X12_far : Cond.static yX12_far ∈ TB := tb_6 234 rfl rfl
theorem qo_X12_far : Cond.code yX12_far cX12_far 2 (some .int) ∈ TB := tb_6 235 rfl rfl
theorem qv_X12_clerks : Cond.instanceMethod yX12_clerks ∈ TB := tb_6 237 rfl rfl
theorem qe_X12_clerks : Cond.selects RX12 yX12_clerks yX12_clerks ∈ TB := tb_6 238 rfl rfl
theorem qo_X12_clerks : Cond.code yX12_clerks cX12_clerks 15 (some .int) ∈ TB := tb_6 239 rfl rfl
theorem qv_X12_waitedAt : Cond.instanceMethod yX12_waitedAt ∈ TB := tb_7 2 rfl rfl
theorem qo_X12_waitedAt : Cond.code yX12_waitedAt cX12_waitedAt 13 (some .int) ∈ TB := tb_7 3 rfl rfl
theorem qv_X12_guest : Cond.instanceMethod yX12_guest ∈ TB := tb_7 5 rfl rfl
theorem qe_X12_guest : Cond.selects RX12 yX12_guest yX12_guest ∈ TB := tb_7 6 rfl rfl
theorem qo_X12_guest : Cond.code yX12_guest cX12_guest 5 (some .int) ∈ TB := tb_7 7 rfl rfl
theorem qv_X12_fell : Cond.instanceMethod yX12_fell ∈ TB := tb_7 9 rfl rfl
theorem qe_X12_fell : Cond.selects RX12 yX12_fell yX12_fell ∈ TB := tb_7 10 rfl rfl
theorem qo_X12_fell : Cond.code yX12_fell cX12_fell 3 (some .int) ∈ TB := tb_7 11 rfl rfl
theorem qv_X12_brought : Cond.instanceMethod yX12_brought ∈ TB := tb_7 13 rfl rfl
theorem qe_X12_brought : Cond.selects RX12 yX12_brought yX12_brought ∈ TB := tb_7 14 rfl rfl
theorem qo_X12_brought : Cond.code yX12_brought cX12_brought 8 (some .int) ∈ TB := tb_7 15 rfl rfl
theorem qv_X12_whoMay : Cond.instanceMethod yX12_whoMay ∈ TB := tb_7 18 rfl rfl
theorem qo_X12_whoMay : Cond.code yX12_whoMay cX12_whoMay 5 (some .int) ∈ TB := tb_7 19 rfl rfl
theorem qt_X12_bits : Cond.static yX12_bits ∈ TB := tb_7 21 rfl rfl
theorem qo_X12_bits : Cond.code yX12_bits cX12_bits 3 (some .int) ∈ TB := tb_7 22 rfl rfl
theorem qv_X12_high : Cond.instanceMethod yX12_high ∈ TB := tb_7 24 rfl rfl
theorem qe_X12_high : Cond.selects RX12 yX12_high yX12_high ∈ TB := tb_7 25 rfl rfl
theorem qo_X12_high : Cond.code yX12_high cX12_high 4 (some .int) ∈ TB := tb_7 26 rfl rfl
theorem qt_X12_isLength : Cond.static yX12_isLength ∈ TB := tb_7 28 rfl rfl
theorem qo_X12_isLength : Cond.code yX12_isLength cX12_isLength 1 (some .boolean) ∈ TB := tb_7 29 rfl rfl
theorem qv_X12_lean : Cond.instanceMethod yX12_lean ∈ TB := tb_7 31 rfl rfl
theorem qe_X12_lean : Cond.selects RX12 yX12_lean yX12_lean ∈ TB := tb_7 32 rfl rfl
theorem qo_X12_lean : Cond.code yX12_lean cX12_lean 4 (some .int) ∈ TB := tb_7 33 rfl rfl
theorem qv_X12_breaches : Cond.instanceMethod yX12_breaches ∈ TB := tb_7 35 rfl rfl
theorem qe_X12_breaches : Cond.selects RX12 yX12_breaches yX12_breaches ∈ TB := tb_7 36 rfl rfl
theorem qo_X12_breaches : Cond.code yX12_breaches cX12_breaches 1 (some .int) ∈ TB := tb_7 37 rfl rfl
theorem qv_X12_breachesNow : Cond.instanceMethod yX12_breachesNow ∈ TB := tb_7 40 rfl rfl
theorem qo_X12_breachesNow : Cond.code yX12_breachesNow cX12_breachesNow 6 (some .int) ∈ TB := tb_7 41 rfl rfl
theorem qv_X12_watch : Cond.instanceMethod yX12_watch ∈ TB := tb_7 43 rfl rfl
theorem qe_X12_watch : Cond.selects RX12 yX12_watch yX12_watch ∈ TB := tb_7 44 rfl rfl
theorem qo_X12_watch : Cond.code yX12_watch cX12_watch 11 (some .int) ∈ TB := tb_7 45 rfl rfl
theorem qv_X12_day : Cond.instanceMethod yX12_day ∈ TB := tb_7 49 rfl rfl
theorem qe_X12_day : Cond.selects RX12 yX12_day yX12_day ∈ TB := tb_7 50 rfl rfl
theorem qo_X12_day : Cond.code yX12_day cX12_day 3 (some .int) ∈ TB := tb_7 51 rfl rfl
theorem qv_X12_kind : Cond.instanceMethod yX12_kind ∈ TB := tb_7 53 rfl rfl
theorem qe_X12_kind : Cond.selects RX12 yX12_kind yX12_kind ∈ TB := tb_7 54 rfl rfl
theorem qo_X12_kind : Cond.code yX12_kind cX12_kind 2 (some .int) ∈ TB := tb_7 55 rfl rfl
theorem qv_X12_kindOf : Cond.instanceMethod yX12_kindOf ∈ TB := tb_7 58 rfl rfl
theorem qo_X12_kindOf : Cond.code yX12_kindOf cX12_kindOf 3 (some .int) ∈ TB := tb_7 59 rfl rfl
theorem qv_X12_as : Cond.instanceMethod yX12_as ∈ TB := tb_7 61 rfl rfl
theorem qe_X12_as : Cond.selects RX12 yX12_as yX12_as ∈ TB := tb_7 62 rfl rfl
theorem qo_X12_as : Cond.code yX12_as cX12_as 3 (some .int) ∈ TB := tb_7 63 rfl rfl
theorem qt_X12_isOf : Cond.static yX12_isOf ∈ TB := tb_7 65 rfl rfl
theorem qo_X12_isOf : Cond.code yX12_isOf cX12_isOf 2 (some .boolean) ∈ TB := tb_7 66 rfl rfl
theorem qv_X12_ask : Cond.instanceMethod yX12_ask ∈ TB := tb_7 68 rfl rfl
theorem qe_X12_ask : Cond.selects RX12 yX12_ask yX12_ask ∈ TB := tb_7 69 rfl rfl
theorem qo_X12_ask : Cond.code yX12_ask cX12_ask 4 (some .int) ∈ TB := tb_7 70 rfl rfl
theorem qv_X12_sizeOf : Cond.instanceMethod yX12_sizeOf ∈ TB := tb_7 73 rfl rfl
theorem qo_X12_sizeOf : Cond.code yX12_sizeOf cX12_sizeOf 4 (some .int) ∈ TB := tb_7 74 rfl rfl
theorem qv_X12_nightSize : Cond.instanceMethod yX12_nightSize ∈ TB := tb_7 77 rfl rfl
theorem qo_X12_nightSize : Cond.code yX12_nightSize cX12_nightSize 2 (some .int) ∈ TB := tb_7 78 rfl rfl
theorem qv_X12_began : Cond.instanceMethod yX12_began ∈ TB := tb_7 81 rfl rfl
theorem qo_X12_began : Cond.code yX12_began cX12_began 2 none ∈ TB := tb_7 82 rfl rfl
theorem qv_X12_markOf : Cond.instanceMethod yX12_markOf ∈ TB := tb_7 85 rfl rfl
theorem qo_X12_markOf : Cond.code yX12_markOf cX12_markOf 4 (some .int) ∈ TB := tb_7 86 rfl rfl
theorem qv_X12_trace : Cond.instanceMethod yX12_trace ∈ TB := tb_7 88 rfl rfl
theorem qe_X12_trace : Cond.selects RX12 yX12_trace yX12_trace ∈ TB := tb_7 89 rfl rfl
theorem qo_X12_trace : Cond.code yX12_trace cX12_trace 2 (some .int) ∈ TB := tb_7 90 rfl rfl
theorem qv_X12_count : Cond.instanceMethod yX12_count ∈ TB := tb_7 92 rfl rfl
theorem qe_X12_count : Cond.selects RX12 yX12_count yX12_count ∈ TB := tb_7 93 rfl rfl
theorem qo_X12_count : Cond.code yX12_count cX12_count 4 (some .int) ∈ TB := tb_7 94 rfl rfl
theorem qv_X12_status : Cond.instanceMethod yX12_status ∈ TB := tb_7 96 rfl rfl
theorem qe_X12_status : Cond.selects RX12 yX12_status yX12_status ∈ TB := tb_7 97 rfl rfl
theorem qo_X12_status : Cond.code yX12_status cX12_status 1 (some .int) ∈ TB := tb_7 98 rfl rfl
theorem qe_X11_found : Cond.selects RX11 yX11_found yX11_found ∈ TB := tb_p 0 _ rfl
theorem qe_X11_fine : Cond.selects RX11 yX11_fine yX11_fine ∈ TB := tb_p 1 _ rfl
theorem qe_X11_flawOf : Cond.selects RX11 yX11_flawOf yX11_flawOf ∈ TB := tb_p 2 _ rfl
theorem qe_X7_nextToken : Cond.selects RX7 yX7_nextToken yX7_nextToken ∈ TB := tb_p 3 _ rfl
theorem qe_X7_readName : Cond.selects RX7 yX7_readName yX7_readName ∈ TB := tb_p 4 _ rfl
theorem qe_X7_readNumber : Cond.selects RX7 yX7_readNumber yX7_readNumber ∈ TB := tb_p 5 _ rfl
theorem qe_X7_readSection : Cond.selects RX7 yX7_readSection yX7_readSection ∈ TB := tb_p 6 _ rfl
theorem qe_X7_spells : Cond.selects RX7 yX7_spells yX7_spells ∈ TB := tb_p 7 _ rfl
theorem qe_X7_blame : Cond.selects RX7 yX7_blame yX7_blame ∈ TB := tb_p 8 _ rfl
theorem qe_X7_isNumberUpTo : Cond.selects RX7 yX7_isNumberUpTo yX7_isNumberUpTo ∈ TB := tb_p 9 _ rfl
theorem qe_X7_readLaw : Cond.selects RX7 yX7_readLaw yX7_readLaw ∈ TB := tb_p 10 _ rfl
theorem qe_X7_lawWord : Cond.selects RX7 yX7_lawWord yX7_lawWord ∈ TB := tb_p 11 _ rfl
theorem qe_X11_isCart : Cond.selects RX11 yX11_isCart yX11_isCart ∈ TB := tb_p 12 _ rfl
theorem qe_X2_wholeToll : Cond.selects RX2 yX2_wholeToll yX2_wholeToll ∈ TB := tb_p 13 _ rfl
theorem qe_X2_shiftOn : Cond.selects RX2 yX2_shiftOn yX2_shiftOn ∈ TB := tb_p 14 _ rfl
theorem qe_X2_afterPassing : Cond.selects RX2 yX2_afterPassing yX2_afterPassing ∈ TB := tb_p 15 _ rfl
theorem qe_X5_areFarEnough : Cond.selects RX5 yX5_areFarEnough yX5_areFarEnough ∈ TB := tb_p 16 _ rfl
theorem qe_X11_isPass : Cond.selects RX11 yX11_isPass yX11_isPass ∈ TB := tb_p 17 _ rfl
theorem qe_X5_isForged : Cond.selects RX5 yX5_isForged yX5_isForged ∈ TB := tb_p 18 _ rfl
theorem qe_X5_wasSick : Cond.selects RX5 yX5_wasSick yX5_wasSick ∈ TB := tb_p 19 _ rfl
theorem qe_X5_isSealOfOtherHand : Cond.selects RX5 yX5_isSealOfOtherHand yX5_isSealOfOtherHand ∈ TB := tb_p 20 _ rfl
theorem qe_X6_waitedAt : Cond.selects RX6 yX6_waitedAt yX6_waitedAt ∈ TB := tb_p 21 _ rfl
theorem qe_X6_firstFree : Cond.selects RX6 yX6_firstFree yX6_firstFree ∈ TB := tb_p 22 _ rfl
theorem qe_X6_tryWay : Cond.selects RX6 yX6_tryWay yX6_tryWay ∈ TB := tb_p 23 _ rfl
theorem qe_X3_doCover : Cond.selects RX3 yX3_doCover yX3_doCover ∈ TB := tb_p 24 _ rfl
theorem qe_X0_tollSize : Cond.selects RX0 yX0_tollSize yX0_tollSize ∈ TB := tb_p 25 _ rfl
theorem qe_X0_leave : Cond.selects RX0 yX0_leave yX0_leave ∈ TB := tb_p 26 _ rfl
theorem qe_X0_lentSize : Cond.selects RX0 yX0_lentSize yX0_lentSize ∈ TB := tb_p 27 _ rfl
theorem qe_X0_healthSize : Cond.selects RX0 yX0_healthSize yX0_healthSize ∈ TB := tb_p 28 _ rfl
theorem qe_X0_forgedMark : Cond.selects RX0 yX0_forgedMark yX0_forgedMark ∈ TB := tb_p 29 _ rfl
theorem qe_X0_healthMark : Cond.selects RX0 yX0_healthMark yX0_healthMark ∈ TB := tb_p 30 _ rfl
theorem qe_X0_lentMark : Cond.selects RX0 yX0_lentMark yX0_lentMark ∈ TB := tb_p 31 _ rfl
theorem qe_X0_forgedSize : Cond.selects RX0 yX0_forgedSize yX0_forgedSize ∈ TB := tb_p 32 _ rfl
theorem qe_X0_nightSize : Cond.selects RX0 yX0_nightSize yX0_nightSize ∈ TB := tb_p 33 _ rfl
theorem qe_X0_nightMark : Cond.selects RX0 yX0_nightMark yX0_nightMark ∈ TB := tb_p 34 _ rfl
theorem qe_X12_finding : Cond.selects RX12 yX12_finding yX12_finding ∈ TB := tb_p 35 _ rfl
theorem qe_X12_step : Cond.selects RX12 yX12_step yX12_step ∈ TB := tb_p 36 _ rfl
theorem qe_X12_byteAt : Cond.selects RX12 yX12_byteAt yX12_byteAt ∈ TB := tb_p 37 _ rfl
theorem qe_X12_word : Cond.selects RX12 yX12_word yX12_word ∈ TB := tb_p 38 _ rfl
theorem qe_X12_need : Cond.selects RX12 yX12_need yX12_need ∈ TB := tb_p 39 _ rfl
theorem qe_X12_bad : Cond.selects RX12 yX12_bad yX12_bad ∈ TB := tb_p 40 _ rfl
theorem qe_X12_numberTo : Cond.selects RX12 yX12_numberTo yX12_numberTo ∈ TB := tb_p 41 _ rfl
theorem qe_X12_readLaw : Cond.selects RX12 yX12_readLaw yX12_readLaw ∈ TB := tb_p 42 _ rfl
theorem qe_X12_lawOfWord : Cond.selects RX12 yX12_lawOfWord yX12_lawOfWord ∈ TB := tb_p 43 _ rfl
theorem qe_X12_numberFor : Cond.selects RX12 yX12_numberFor yX12_numberFor ∈ TB := tb_p 44 _ rfl
theorem qe_X12_lawFor : Cond.selects RX12 yX12_lawFor yX12_lawFor ∈ TB := tb_p 45 _ rfl
theorem qe_X12_isGood : Cond.selects RX12 yX12_isGood yX12_isGood ∈ TB := tb_p 46 _ rfl
theorem qe_X12_isBanned : Cond.selects RX12 yX12_isBanned yX12_isBanned ∈ TB := tb_p 47 _ rfl
theorem qe_X12_lookItems : Cond.selects RX12 yX12_lookItems yX12_lookItems ∈ TB := tb_p 48 _ rfl
theorem qe_X12_isCart : Cond.selects RX12 yX12_isCart yX12_isCart ∈ TB := tb_p 49 _ rfl
theorem qe_X12_owedBy : Cond.selects RX12 yX12_owedBy yX12_owedBy ∈ TB := tb_p 50 _ rfl
theorem qe_X12_goThrough : Cond.selects RX12 yX12_goThrough yX12_goThrough ∈ TB := tb_p 51 _ rfl
theorem qe_X12_isOpen : Cond.selects RX12 yX12_isOpen yX12_isOpen ∈ TB := tb_p 52 _ rfl
theorem qe_X12_on : Cond.selects RX12 yX12_on yX12_on ∈ TB := tb_p 53 _ rfl
theorem qe_X12_isPass : Cond.selects RX12 yX12_isPass yX12_isPass ∈ TB := tb_p 54 _ rfl
theorem qe_X12_isForged : Cond.selects RX12 yX12_isForged yX12_isForged ∈ TB := tb_p 55 _ rfl
theorem qe_X12_waitedAt : Cond.selects RX12 yX12_waitedAt yX12_waitedAt ∈ TB := tb_p 56 _ rfl
theorem qe_X12_whoMay : Cond.selects RX12 yX12_whoMay yX12_whoMay ∈ TB := tb_p 57 _ rfl
theorem qe_X12_breachesNow : Cond.selects RX12 yX12_breachesNow yX12_breachesNow ∈ TB := tb_p 58 _ rfl
theorem qe_X12_kindOf : Cond.selects RX12 yX12_kindOf yX12_kindOf ∈ TB := tb_p 59 _ rfl
theorem qe_X12_sizeOf : Cond.selects RX12 yX12_sizeOf yX12_sizeOf ∈ TB := tb_p 60 _ rfl
theorem qe_X12_nightSize : Cond.selects RX12 yX12_nightSize yX12_nightSize ∈ TB := tb_p 61 _ rfl
theorem qe_X12_began : Cond.selects RX12 yX12_began yX12_began ∈ TB := tb_p 62 _ rfl
theorem qe_X12_markOf : Cond.selects RX12 yX12_markOf yX12_markOf ∈ TB := tb_p 63 _ rfl
theorem qu_X11 : ∀ w ∈ u_ws RX11 TX11 13, w ∈ TB := by
  intro w h
  obtain ⟨k, hk, rfl⟩ := List.mem_map.mp h
  have hk := List.mem_range.mp hk
  match k, hk with
  | 0, _ => exact tb_2 99 rfl rfl
  | 1, _ => exact tb_2 101 rfl rfl
  | 2, _ => exact tb_2 103 rfl rfl
  | 3, _ => exact tb_2 105 rfl rfl
  | 4, _ => exact tb_2 107 rfl rfl
  | 5, _ => exact tb_2 109 rfl rfl
  | 6, _ => exact tb_2 111 rfl rfl
  | 7, _ => exact tb_2 113 rfl rfl
  | 8, _ => exact tb_2 115 rfl rfl
  | 9, _ => exact tb_2 117 rfl rfl
  | 10, _ => exact tb_2 119 rfl rfl
  | 11, _ => exact tb_2 121 rfl rfl
  | 12, _ => exact tb_2 123 rfl rfl
  | k + 13, h => exact absurd h (by omega)
theorem qu_X0 : ∀ w ∈ u_ws RX0 TX0 3, w ∈ TB := by
  intro w h
  obtain ⟨k, hk, rfl⟩ := List.mem_map.mp h
  have hk := List.mem_range.mp hk
  match k, hk with
  | 0, _ => exact tb_1 223 rfl rfl
  | 1, _ => exact tb_1 225 rfl rfl
  | 2, _ => exact tb_1 227 rfl rfl
  | k + 3, h => exact absurd h (by omega)
theorem qu_X1 : ∀ w ∈ u_ws RX1 TX1 5, w ∈ TB := by
  intro w h
  obtain ⟨k, hk, rfl⟩ := List.mem_map.mp h
  have hk := List.mem_range.mp hk
  match k, hk with
  | 0, _ => exact tb_1 86 rfl rfl
  | 1, _ => exact tb_1 88 rfl rfl
  | 2, _ => exact tb_1 90 rfl rfl
  | 3, _ => exact tb_1 92 rfl rfl
  | 4, _ => exact tb_1 94 rfl rfl
  | k + 5, h => exact absurd h (by omega)
theorem qu_X2 : ∀ w ∈ u_ws RX2 TX2 10, w ∈ TB := by
  intro w h
  obtain ⟨k, hk, rfl⟩ := List.mem_map.mp h
  have hk := List.mem_range.mp hk
  match k, hk with
  | 0, _ => exact tb_1 152 rfl rfl
  | 1, _ => exact tb_1 154 rfl rfl
  | 2, _ => exact tb_1 156 rfl rfl
  | 3, _ => exact tb_1 158 rfl rfl
  | 4, _ => exact tb_1 160 rfl rfl
  | 5, _ => exact tb_1 162 rfl rfl
  | 6, _ => exact tb_1 164 rfl rfl
  | 7, _ => exact tb_1 166 rfl rfl
  | 8, _ => exact tb_1 168 rfl rfl
  | 9, _ => exact tb_1 170 rfl rfl
  | k + 10, h => exact absurd h (by omega)
theorem qu_X3 : ∀ w ∈ u_ws RX3 TX3 3, w ∈ TB := by
  intro w h
  obtain ⟨k, hk, rfl⟩ := List.mem_map.mp h
  have hk := List.mem_range.mp hk
  match k, hk with
  | 0, _ => exact tb_2 79 rfl rfl
  | 1, _ => exact tb_2 81 rfl rfl
  | 2, _ => exact tb_2 83 rfl rfl
  | k + 3, h => exact absurd h (by omega)
theorem qu_X4 : ∀ w ∈ u_ws RX4 TX4 5, w ∈ TB := by
  intro w h
  obtain ⟨k, hk, rfl⟩ := List.mem_map.mp h
  have hk := List.mem_range.mp hk
  match k, hk with
  | 0, _ => exact tb_1 63 rfl rfl
  | 1, _ => exact tb_1 65 rfl rfl
  | 2, _ => exact tb_1 67 rfl rfl
  | 3, _ => exact tb_1 69 rfl rfl
  | 4, _ => exact tb_1 71 rfl rfl
  | k + 5, h => exact absurd h (by omega)
theorem qu_X5 : ∀ w ∈ u_ws RX5 TX5 10, w ∈ TB := by
  intro w h
  obtain ⟨k, hk, rfl⟩ := List.mem_map.mp h
  have hk := List.mem_range.mp hk
  match k, hk with
  | 0, _ => exact tb_1 191 rfl rfl
  | 1, _ => exact tb_1 193 rfl rfl
  | 2, _ => exact tb_1 195 rfl rfl
  | 3, _ => exact tb_1 197 rfl rfl
  | 4, _ => exact tb_1 199 rfl rfl
  | 5, _ => exact tb_1 201 rfl rfl
  | 6, _ => exact tb_1 203 rfl rfl
  | 7, _ => exact tb_1 205 rfl rfl
  | 8, _ => exact tb_1 207 rfl rfl
  | 9, _ => exact tb_1 209 rfl rfl
  | k + 10, h => exact absurd h (by omega)
theorem qu_X6 : ∀ w ∈ u_ws RX6 TX6 7, w ∈ TB := by
  intro w h
  obtain ⟨k, hk, rfl⟩ := List.mem_map.mp h
  have hk := List.mem_range.mp hk
  match k, hk with
  | 0, _ => exact tb_2 5 rfl rfl
  | 1, _ => exact tb_2 7 rfl rfl
  | 2, _ => exact tb_2 9 rfl rfl
  | 3, _ => exact tb_2 11 rfl rfl
  | 4, _ => exact tb_2 13 rfl rfl
  | 5, _ => exact tb_2 15 rfl rfl
  | 6, _ => exact tb_2 17 rfl rfl
  | k + 7, h => exact absurd h (by omega)
theorem qu_X7 : ∀ w ∈ u_ws RX7 TX7 9, w ∈ TB := by
  intro w h
  obtain ⟨k, hk, rfl⟩ := List.mem_map.mp h
  have hk := List.mem_range.mp hk
  match k, hk with
  | 0, _ => exact tb_1 115 rfl rfl
  | 1, _ => exact tb_1 117 rfl rfl
  | 2, _ => exact tb_1 119 rfl rfl
  | 3, _ => exact tb_1 121 rfl rfl
  | 4, _ => exact tb_1 123 rfl rfl
  | 5, _ => exact tb_1 125 rfl rfl
  | 6, _ => exact tb_1 127 rfl rfl
  | 7, _ => exact tb_1 129 rfl rfl
  | 8, _ => exact tb_1 131 rfl rfl
  | k + 9, h => exact absurd h (by omega)
theorem qu_X8 : ∀ w ∈ u_ws RX8 TX8 3, w ∈ TB := by
  intro w h
  obtain ⟨k, hk, rfl⟩ := List.mem_map.mp h
  have hk := List.mem_range.mp hk
  match k, hk with
  | 0, _ => exact tb_1 38 rfl rfl
  | 1, _ => exact tb_1 40 rfl rfl
  | 2, _ => exact tb_1 42 rfl rfl
  | k + 3, h => exact absurd h (by omega)
theorem qu_X9 : ∀ w ∈ u_ws RX9 TX9 6, w ∈ TB := by
  intro w h
  obtain ⟨k, hk, rfl⟩ := List.mem_map.mp h
  have hk := List.mem_range.mp hk
  match k, hk with
  | 0, _ => exact tb_2 33 rfl rfl
  | 1, _ => exact tb_2 35 rfl rfl
  | 2, _ => exact tb_2 37 rfl rfl
  | 3, _ => exact tb_2 39 rfl rfl
  | 4, _ => exact tb_2 41 rfl rfl
  | 5, _ => exact tb_2 43 rfl rfl
  | k + 6, h => exact absurd h (by omega)
theorem qu_X10 : ∀ w ∈ u_ws RX10 TX10 4, w ∈ TB := by
  intro w h
  obtain ⟨k, hk, rfl⟩ := List.mem_map.mp h
  have hk := List.mem_range.mp hk
  match k, hk with
  | 0, _ => exact tb_2 58 rfl rfl
  | 1, _ => exact tb_2 60 rfl rfl
  | 2, _ => exact tb_2 62 rfl rfl
  | 3, _ => exact tb_2 64 rfl rfl
  | k + 4, h => exact absurd h (by omega)
theorem qu_X12 : ∀ w ∈ u_ws RX12 TX12 61, w ∈ TB := by
  intro w h
  obtain ⟨k, hk, rfl⟩ := List.mem_map.mp h
  have hk := List.mem_range.mp hk
  match k, hk with
  | 0, _ => exact tb_5 113 rfl rfl
  | 1, _ => exact tb_5 115 rfl rfl
  | 2, _ => exact tb_5 117 rfl rfl
  | 3, _ => exact tb_5 119 rfl rfl
  | 4, _ => exact tb_5 121 rfl rfl
  | 5, _ => exact tb_5 123 rfl rfl
  | 6, _ => exact tb_5 125 rfl rfl
  | 7, _ => exact tb_5 127 rfl rfl
  | 8, _ => exact tb_5 129 rfl rfl
  | 9, _ => exact tb_5 131 rfl rfl
  | 10, _ => exact tb_5 133 rfl rfl
  | 11, _ => exact tb_5 135 rfl rfl
  | 12, _ => exact tb_5 137 rfl rfl
  | 13, _ => exact tb_5 139 rfl rfl
  | 14, _ => exact tb_5 141 rfl rfl
  | 15, _ => exact tb_5 143 rfl rfl
  | 16, _ => exact tb_5 145 rfl rfl
  | 17, _ => exact tb_5 147 rfl rfl
  | 18, _ => exact tb_5 149 rfl rfl
  | 19, _ => exact tb_5 151 rfl rfl
  | 20, _ => exact tb_5 153 rfl rfl
  | 21, _ => exact tb_5 155 rfl rfl
  | 22, _ => exact tb_5 157 rfl rfl
  | 23, _ => exact tb_5 159 rfl rfl
  | 24, _ => exact tb_5 161 rfl rfl
  | 25, _ => exact tb_5 163 rfl rfl
  | 26, _ => exact tb_5 165 rfl rfl
  | 27, _ => exact tb_5 167 rfl rfl
  | 28, _ => exact tb_5 169 rfl rfl
  | 29, _ => exact tb_5 171 rfl rfl
  | 30, _ => exact tb_5 173 rfl rfl
  | 31, _ => exact tb_5 175 rfl rfl
  | 32, _ => exact tb_5 177 rfl rfl
  | 33, _ => exact tb_5 179 rfl rfl
  | 34, _ => exact tb_5 181 rfl rfl
  | 35, _ => exact tb_5 183 rfl rfl
  | 36, _ => exact tb_5 185 rfl rfl
  | 37, _ => exact tb_5 187 rfl rfl
  | 38, _ => exact tb_5 189 rfl rfl
  | 39, _ => exact tb_5 191 rfl rfl
  | 40, _ => exact tb_5 193 rfl rfl
  | 41, _ => exact tb_5 195 rfl rfl
  | 42, _ => exact tb_5 197 rfl rfl
  | 43, _ => exact tb_5 199 rfl rfl
  | 44, _ => exact tb_5 201 rfl rfl
  | 45, _ => exact tb_5 203 rfl rfl
  | 46, _ => exact tb_5 205 rfl rfl
  | 47, _ => exact tb_5 207 rfl rfl
  | 48, _ => exact tb_5 209 rfl rfl
  | 49, _ => exact tb_5 211 rfl rfl
  | 50, _ => exact tb_5 213 rfl rfl
  | 51, _ => exact tb_5 215 rfl rfl
  | 52, _ => exact tb_5 217 rfl rfl
  | 53, _ => exact tb_5 219 rfl rfl
  | 54, _ => exact tb_5 221 rfl rfl
  | 55, _ => exact tb_5 223 rfl rfl
  | 56, _ => exact tb_5 225 rfl rfl
  | 57, _ => exact tb_5 227 rfl rfl
  | 58, _ => exact tb_5 229 rfl rfl
  | 59, _ => exact tb_5 231 rfl rfl
  | 60, _ => exact tb_5 233 rfl rfl
  | k + 61, h => exact absurd h (by omega)
end
section
/-! the world: its cells by number. 0 .. 12 objects, then the arrays -/
def nW : Nat := 89
def nO : Nat := 13
def ocL : List Nat := [11, 0, 1, 2, 3, 4, 5, 6, 7, 8, 9, 10, 12]
def alL : List Nat := [16, 30, 30, 30, 144, 60, 60, 60, 60, 60, 12, 9, 9, 9, 9, 9, 112, 64, 8, 20, 20, 20, 20, 20, 8, 36, 4, 400, 512, 8, 8, 40, 40, 40, 40, 8, 12, 12, 12, 8, 8, 512, 9, 9, 9, 9, 9, 30, 30, 30, 30, 400, 144, 60, 60, 60, 60, 60, 72, 20, 20, 20, 112, 8, 4, 36, 40, 40, 40, 40, 8, 12, 20, 20, 20, 16]
def rtL : List (List (Option Nat)) := [[some 9, some 5, some 2, some 8, some 3, some 6, some 1, some 7, some 10, some 11, some 4, none, none], [some 6, some 13, none], [some 14, some 15, some 16, none, none], [some 5, some 2, some 17, none, some 18, some 19, some 20, some 21, some 22, none], [some 23, none, none], [some 24, some 25, some 26, some 27, some 28], [some 5, some 2, some 29, none, some 30, some 31, some 32, some 33, some 34, none], [some 35, some 36, none, some 37, some 38, some 39, none], [some 2, some 40, none, none, none, none, none, none, none], [some 41, some 42, some 43], [some 44, some 45, some 46, some 47, none, some 48], [some 49, some 50, some 51, none], [none, none, some 52, some 53, some 54, some 55, some 56, some 57, some 58, some 59, none, some 60, some 61, some 62, some 63, none, some 64, none, none, none, none, none, none, none, none, none, none, some 65, none, some 66, some 67, some 68, some 69, some 70, none, none, none, some 71, none, some 72, some 73, some 74, none, some 75, none, some 76, some 77, some 78, none, some 79, some 80, some 81, some 82, some 83, some 84, none, some 85, some 86, some 87, some 88, none]]
def stC : List String := ["DuskGates$Reader", "DuskGates$Reader", "DuskGates$Papers"]
def stN : List String := ["HIGHEST_FIRST", "TOPIC", "HIGHEST"]
def stV : List (List Int32) := [[999, 7, 7, 7, 7, 11, 11], [0, 10, 20, 30, 30, 40, 40], [3, 11, 99, 9, 7, 999, 999]]
def skI : List Nat := [44, 80, 82, 84, 86, 88, 90, 92]
def skT : List String := ["from", "wheel", "toll", "free", "good", "bad", "ban", "lift"]
def skL : List Nat := [4, 5, 4, 4, 4, 3, 3, 4]
def skB : List (List Int32) := [[102, 114, 111, 109], [119, 104, 101, 101, 108], [116, 111, 108, 108], [102, 114, 101, 101], [103, 111, 111, 100], [98, 97, 100], [98, 97, 110], [108, 105, 102, 116]]
def skO : String := RX7
abbrev mI : Type := String × ByteArray × Nat × Option FieldType × Room × MethodName
abbrev iX0_sizeOf : mI := (RX0, cX0_sizeOf, 3, (some .int), { frames := 6, cells := 0, slots := 0, locals := 129 }, yX0_sizeOf)
abbrev iX0_markOf : mI := (RX0, cX0_markOf, 3, (some .int), { frames := 4, cells := 0, slots := 0, locals := 86 }, yX0_markOf)
abbrev iX0_lentSize : mI := (RX0, cX0_lentSize, 2, (some .int), { frames := 1, cells := 0, slots := 0, locals := 22 }, yX0_lentSize)
abbrev iX0_tollSize : mI := (RX0, cX0_tollSize, 2, (some .int), { frames := 2, cells := 0, slots := 0, locals := 43 }, yX0_tollSize)
abbrev iX0_healthSize : mI := (RX0, cX0_healthSize, 4, (some .int), { frames := 4, cells := 0, slots := 0, locals := 85 }, yX0_healthSize)
abbrev iX0_forgedSize : mI := (RX0, cX0_forgedSize, 2, (some .int), { frames := 5, cells := 0, slots := 0, locals := 108 }, yX0_forgedSize)
abbrev iX0_nightSize : mI := (RX0, cX0_nightSize, 2, (some .int), { frames := 2, cells := 0, slots := 0, locals := 43 }, yX0_nightSize)
abbrev iX0_lentMark : mI := (RX0, cX0_lentMark, 2, (some .int), { frames := 1, cells := 0, slots := 0, locals := 22 }, yX0_lentMark)
abbrev iX0_healthMark : mI := (RX0, cX0_healthMark, 2, (some .int), { frames := 2, cells := 0, slots := 0, locals := 43 }, yX0_healthMark)
abbrev iX0_forgedMark : mI := (RX0, cX0_forgedMark, 2, (some .int), { frames := 3, cells := 0, slots := 0, locals := 64 }, yX0_forgedMark)
abbrev iX0_nightMark : mI := (RX0, cX0_nightMark, 3, (some .int), { frames := 3, cells := 0, slots := 0, locals := 64 }, yX0_nightMark)
abbrev iX0_leave : mI := (RX0, cX0_leave, 2, none, { frames := 0, cells := 0, slots := 0, locals := 0 }, yX0_leave)
abbrev iX1_isTopic : mI := (RX1, cX1_isTopic, 1, (some .boolean), { frames := 1, cells := 0, slots := 0, locals := 22 }, yX1_isTopic)
abbrev iX1_inForce : mI := (RX1, cX1_inForce, 6, (some .int), { frames := 1, cells := 0, slots := 0, locals := 22 }, yX1_inForce)
abbrev iX1_beginDraft : mI := (RX1, cX1_beginDraft, 1, none, { frames := 0, cells := 0, slots := 0, locals := 0 }, yX1_beginDraft)
abbrev iX1_isDraftFull : mI := (RX1, cX1_isDraftFull, 1, (some .boolean), { frames := 0, cells := 0, slots := 0, locals := 0 }, yX1_isDraftFull)
abbrev iX1_draft : mI := (RX1, cX1_draft, 4, none, { frames := 0, cells := 0, slots := 0, locals := 0 }, yX1_draft)
abbrev iX1_passDraft : mI := (RX1, cX1_passDraft, 1, none, { frames := 0, cells := 0, slots := 0, locals := 0 }, yX1_passDraft)
abbrev iX2_addCart : mI := (RX2, cX2_addCart, 5, (some .int), { frames := 1, cells := 0, slots := 0, locals := 22 }, yX2_addCart)
abbrev iX2_owedAt : mI := (RX2, cX2_owedAt, 4, (some .int), { frames := 3, cells := 0, slots := 0, locals := 72 }, yX2_owedAt)
abbrev iX2_leastGate : mI := (RX2, cX2_leastGate, 6, (some .int), { frames := 3, cells := 0, slots := 0, locals := 72 }, yX2_leastGate)
abbrev iX2_wholeToll : mI := (RX2, cX2_wholeToll, 6, (some .int), { frames := 2, cells := 0, slots := 0, locals := 47 }, yX2_wholeToll)
abbrev iX2_addPassing : mI := (RX2, cX2_addPassing, 9, (some .int), { frames := 1, cells := 0, slots := 0, locals := 21 }, yX2_addPassing)
abbrev iX2_shiftOn : mI := (RX2, cX2_shiftOn, 2, none, { frames := 0, cells := 0, slots := 0, locals := 0 }, yX2_shiftOn)
abbrev iX2_wrongPassings : mI := (RX2, cX2_wrongPassings, 5, (some .int), { frames := 1, cells := 0, slots := 0, locals := 23 }, yX2_wrongPassings)
abbrev iX2_cartsInside : mI := (RX2, cX2_cartsInside, 3, (some .int), { frames := 1, cells := 0, slots := 0, locals := 23 }, yX2_cartsInside)
abbrev iX2_afterPassing : mI := (RX2, cX2_afterPassing, 4, (some .int), { frames := 0, cells := 0, slots := 0, locals := 0 }, yX2_afterPassing)
abbrev iX2_lostCarts : mI := (RX2, cX2_lostCarts, 5, (some .int), { frames := 0, cells := 0, slots := 0, locals := 0 }, yX2_lostCarts)
abbrev iX2_shortOf : mI := (RX2, cX2_shortOf, 8, (some .int), { frames := 4, cells := 0, slots := 0, locals := 95 }, yX2_shortOf)
abbrev iX3_search : mI := (RX3, cX3_search, 6, none, { frames := 1, cells := 0, slots := 0, locals := 25 }, yX3_search)
abbrev iX3_anyUse : mI := (RX3, cX3_anyUse, 4, (some .int), { frames := 0, cells := 0, slots := 0, locals := 0 }, yX3_anyUse)
abbrev iX3_doCover : mI := (RX3, cX3_doCover, 6, (some .boolean), { frames := 0, cells := 0, slots := 0, locals := 0 }, yX3_doCover)
abbrev iX4_isOpen : mI := (RX4, cX4_isOpen, 3, (some .boolean), { frames := 0, cells := 0, slots := 0, locals := 0 }, yX4_isOpen)
abbrev iX4_firstIn : mI := (RX4, cX4_firstIn, 10, (some .int), { frames := 1, cells := 0, slots := 0, locals := 21 }, yX4_firstIn)
abbrev iX5_layRoad : mI := (RX5, cX5_layRoad, 5, (some .int), { frames := 0, cells := 0, slots := 0, locals := 0 }, yX5_layRoad)
abbrev iX5_layRoadToGates : mI := (RX5, cX5_layRoadToGates, 4, (some .int), { frames := 0, cells := 0, slots := 0, locals := 0 }, yX5_layRoadToGates)
abbrev iX5_addSick : mI := (RX5, cX5_addSick, 4, (some .int), { frames := 0, cells := 0, slots := 0, locals := 0 }, yX5_addSick)
abbrev iX5_addPass : mI := (RX5, cX5_addPass, 5, (some .int), { frames := 1, cells := 0, slots := 0, locals := 22 }, yX5_addPass)
abbrev iX5_itemOf : mI := (RX5, cX5_itemOf, 3, (some .int), { frames := 0, cells := 0, slots := 0, locals := 0 }, yX5_itemOf)
abbrev iX5_canBeTrue : mI := (RX5, cX5_canBeTrue, 5, (some .boolean), { frames := 2, cells := 0, slots := 0, locals := 45 }, yX5_canBeTrue)
abbrev iX5_areFarEnough : mI := (RX5, cX5_areFarEnough, 4, (some .boolean), { frames := 1, cells := 0, slots := 0, locals := 22 }, yX5_areFarEnough)
abbrev iX5_letsIn : mI := (RX5, cX5_letsIn, 5, (some .boolean), { frames := 3, cells := 0, slots := 0, locals := 70 }, yX5_letsIn)
abbrev iX5_kindOn : mI := (RX5, cX5_kindOn, 3, (some .int), { frames := 3, cells := 0, slots := 0, locals := 70 }, yX5_kindOn)
abbrev iX5_isOfKind : mI := (RX5, cX5_isOfKind, 5, (some .boolean), { frames := 4, cells := 0, slots := 0, locals := 92 }, yX5_isOfKind)
abbrev iX5_howMany : mI := (RX5, cX5_howMany, 5, (some .int), { frames := 5, cells := 0, slots := 0, locals := 116 }, yX5_howMany)
abbrev iX5_isForged : mI := (RX5, cX5_isForged, 4, (some .boolean), { frames := 2, cells := 0, slots := 0, locals := 47 }, yX5_isForged)
abbrev iX5_wasSick : mI := (RX5, cX5_wasSick, 4, (some .boolean), { frames := 1, cells := 0, slots := 0, locals := 22 }, yX5_wasSick)
abbrev iX5_isSealOfOtherHand : mI := (RX5, cX5_isSealOfOtherHand, 3, (some .boolean), { frames := 1, cells := 0, slots := 0, locals := 22 }, yX5_isSealOfOtherHand)
abbrev iX6_clear : mI := (RX6, cX6_clear, 1, none, { frames := 0, cells := 0, slots := 0, locals := 0 }, yX6_clear)
abbrev iX6_comes : mI := (RX6, cX6_comes, 4, none, { frames := 0, cells := 0, slots := 0, locals := 0 }, yX6_comes)
abbrev iX6_shareOut : mI := (RX6, cX6_shareOut, 6, (some .boolean), { frames := 2, cells := 0, slots := 0, locals := 50 }, yX6_shareOut)
abbrev iX6_tryWay : mI := (RX6, cX6_tryWay, 10, none, { frames := 0, cells := 0, slots := 0, locals := 0 }, yX6_tryWay)
abbrev iX6_waitedAt : mI := (RX6, cX6_waitedAt, 8, (some .int), { frames := 1, cells := 0, slots := 0, locals := 23 }, yX6_waitedAt)
abbrev iX6_firstFree : mI := (RX6, cX6_firstFree, 4, (some .int), { frames := 0, cells := 0, slots := 0, locals := 0 }, yX6_firstFree)
abbrev iX7_hasRoom : mI := (RX7, cX7_hasRoom, 2, (some .boolean), { frames := 0, cells := 0, slots := 0, locals := 0 }, yX7_hasRoom)
abbrev iX7_append : mI := (RX7, cX7_append, 5, none, { frames := 0, cells := 0, slots := 0, locals := 0 }, yX7_append)
abbrev iX7_readTape : mI := (RX7, cX7_readTape, 3, (some .boolean), { frames := 9, cells := 0, slots := 0, locals := 194 }, yX7_readTape)
abbrev iX7_readSection : mI := (RX7, cX7_readSection, 4, (some .boolean), { frames := 8, cells := 0, slots := 0, locals := 171 }, yX7_readSection)
abbrev iX7_readLaw : mI := (RX7, cX7_readLaw, 4, (some .boolean), { frames := 7, cells := 0, slots := 0, locals := 148 }, yX7_readLaw)
abbrev iX7_lawWord : mI := (RX7, cX7_lawWord, 1, (some .int), { frames := 6, cells := 0, slots := 0, locals := 128 }, yX7_lawWord)
abbrev iX7_isNumberUpTo : mI := (RX7, cX7_isNumberUpTo, 2, (some .boolean), { frames := 1, cells := 0, slots := 0, locals := 21 }, yX7_isNumberUpTo)
abbrev iX7_blame : mI := (RX7, cX7_blame, 2, (some .boolean), { frames := 0, cells := 0, slots := 0, locals := 0 }, yX7_blame)
abbrev iX7_spells : mI := (RX7, cX7_spells, 3, (some .boolean), { frames := 5, cells := 0, slots := 0, locals := 106 }, yX7_spells)
abbrev iX7_nextToken : mI := (RX7, cX7_nextToken, 1, none, { frames := 2, cells := 0, slots := 0, locals := 40 }, yX7_nextToken)
abbrev iX7_readName : mI := (RX7, cX7_readName, 1, none, { frames := 1, cells := 0, slots := 0, locals := 20 }, yX7_readName)
abbrev iX7_readNumber : mI := (RX7, cX7_readNumber, 1, none, { frames := 1, cells := 0, slots := 0, locals := 20 }, yX7_readNumber)
abbrev iX7_isLetter : mI := (RX7, cX7_isLetter, 1, (some .boolean), { frames := 0, cells := 0, slots := 0, locals := 0 }, yX7_isLetter)
abbrev iX7_isFigure : mI := (RX7, cX7_isFigure, 1, (some .boolean), { frames := 0, cells := 0, slots := 0, locals := 0 }, yX7_isFigure)
abbrev iX8_isMissing : mI := (RX8, cX8_isMissing, 2, (some .boolean), { frames := 0, cells := 0, slots := 0, locals := 0 }, yX8_isMissing)
abbrev iX8_laneOf : mI := (RX8, cX8_laneOf, 2, (some .int), { frames := 0, cells := 0, slots := 0, locals := 0 }, yX8_laneOf)
abbrev iX8_hasPlaces : mI := (RX8, cX8_hasPlaces, 4, (some .boolean), { frames := 0, cells := 0, slots := 0, locals := 0 }, yX8_hasPlaces)
abbrev iX8_itemAt : mI := (RX8, cX8_itemAt, 3, (some .int), { frames := 0, cells := 0, slots := 0, locals := 0 }, yX8_itemAt)
abbrev iX8_lay : mI := (RX8, cX8_lay, 5, none, { frames := 0, cells := 0, slots := 0, locals := 0 }, yX8_lay)
abbrev iX8_put : mI := (RX8, cX8_put, 5, (some .int), { frames := 1, cells := 0, slots := 0, locals := 21 }, yX8_put)
abbrev iX8_move : mI := (RX8, cX8_move, 6, none, { frames := 1, cells := 0, slots := 0, locals := 60 }, yX8_move)
abbrev iX8_takeAway : mI := (RX8, cX8_takeAway, 3, (some .int), { frames := 0, cells := 0, slots := 0, locals := 0 }, yX8_takeAway)
abbrev iX8_present : mI := (RX8, cX8_present, 3, (some .int), { frames := 1, cells := 0, slots := 0, locals := 21 }, yX8_present)
abbrev iX8_cutTo : mI := (RX8, cX8_cutTo, 2, (some .int), { frames := 0, cells := 0, slots := 0, locals := 0 }, yX8_cutTo)
abbrev iX9_addGuest : mI := (RX9, cX9_addGuest, 5, (some .int), { frames := 0, cells := 0, slots := 0, locals := 0 }, yX9_addGuest)
abbrev iX9_addCase : mI := (RX9, cX9_addCase, 3, (some .boolean), { frames := 0, cells := 0, slots := 0, locals := 0 }, yX9_addCase)
abbrev iX9_housesWithCases : mI := (RX9, cX9_housesWithCases, 3, (some .int), { frames := 0, cells := 0, slots := 0, locals := 0 }, yX9_housesWithCases)
abbrev iX9_tellWhoMay : mI := (RX9, cX9_tellWhoMay, 4, none, { frames := 0, cells := 0, slots := 0, locals := 0 }, yX9_tellWhoMay)
abbrev iX10_addHouse : mI := (RX10, cX10_addHouse, 4, (some .int), { frames := 1, cells := 0, slots := 0, locals := 21 }, yX10_addHouse)
abbrev iX10_passable : mI := (RX10, cX10_passable, 3, (some .int), { frames := 0, cells := 0, slots := 0, locals := 0 }, yX10_passable)
abbrev iX11_sheet : mI := (RX11, cX11_sheet, 4, (some .int), { frames := 2, cells := 0, slots := 0, locals := 42 }, yX11_sheet)
abbrev iX11_set : mI := (RX11, cX11_set, 5, (some .int), { frames := 2, cells := 0, slots := 0, locals := 46 }, yX11_set)
abbrev iX11_copy : mI := (RX11, cX11_copy, 6, (some .int), { frames := 2, cells := 0, slots := 0, locals := 85 }, yX11_copy)
abbrev iX11_drop : mI := (RX11, cX11_drop, 2, (some .int), { frames := 2, cells := 0, slots := 0, locals := 42 }, yX11_drop)
abbrev iX11_bell : mI := (RX11, cX11_bell, 4, (some .int), { frames := 2, cells := 0, slots := 0, locals := 42 }, yX11_bell)
abbrev iX11_part : mI := (RX11, cX11_part, 4, (some .int), { frames := 2, cells := 0, slots := 0, locals := 42 }, yX11_part)
abbrev iX11_stands : mI := (RX11, cX11_stands, 4, (some .int), { frames := 2, cells := 0, slots := 0, locals := 43 }, yX11_stands)
abbrev iX11_feed : mI := (RX11, cX11_feed, 4, (some .int), { frames := 1, cells := 0, slots := 0, locals := 24 }, yX11_feed)
abbrev iX11_laws : mI := (RX11, cX11_laws, 1, (some .int), { frames := 10, cells := 0, slots := 0, locals := 216 }, yX11_laws)
abbrev iX11_fault : mI := (RX11, cX11_fault, 1, (some .int), { frames := 0, cells := 0, slots := 0, locals := 0 }, yX11_fault)
abbrev iX11_holds : mI := (RX11, cX11_holds, 3, (some .int), { frames := 2, cells := 0, slots := 0, locals := 47 }, yX11_holds)
abbrev iX11_cart : mI := (RX11, cX11_cart, 5, (some .int), { frames := 2, cells := 0, slots := 0, locals := 46 }, yX11_cart)
abbrev iX11_owed : mI := (RX11, cX11_owed, 4, (some .int), { frames := 4, cells := 0, slots := 0, locals := 97 }, yX11_owed)
abbrev iX11_pass : mI := (RX11, cX11_pass, 7, (some .int), { frames := 2, cells := 0, slots := 0, locals := 49 }, yX11_pass)
abbrev iX11_agree : mI := (RX11, cX11_agree, 2, (some .int), { frames := 2, cells := 0, slots := 0, locals := 47 }, yX11_agree)
abbrev iX11_amiss : mI := (RX11, cX11_amiss, 4, (some .int), { frames := 5, cells := 0, slots := 0, locals := 122 }, yX11_amiss)
abbrev iX11_road : mI := (RX11, cX11_road, 4, (some .int), { frames := 2, cells := 0, slots := 0, locals := 42 }, yX11_road)
abbrev iX11_sick : mI := (RX11, cX11_sick, 4, (some .int), { frames := 3, cells := 0, slots := 0, locals := 63 }, yX11_sick)
abbrev iX11_seal : mI := (RX11, cX11_seal, 6, (some .int), { frames := 2, cells := 0, slots := 0, locals := 46 }, yX11_seal)
abbrev iX11_canbe : mI := (RX11, cX11_canbe, 2, (some .int), { frames := 3, cells := 0, slots := 0, locals := 69 }, yX11_canbe)
abbrev iX11_lets : mI := (RX11, cX11_lets, 5, (some .int), { frames := 4, cells := 0, slots := 0, locals := 94 }, yX11_lets)
abbrev iX11_dusk : mI := (RX11, cX11_dusk, 5, (some .int), { frames := 2, cells := 0, slots := 0, locals := 50 }, yX11_dusk)
abbrev iX11_clerks : mI := (RX11, cX11_clerks, 11, (some .int), { frames := 3, cells := 0, slots := 0, locals := 75 }, yX11_clerks)
abbrev iX11_guest : mI := (RX11, cX11_guest, 5, (some .int), { frames := 3, cells := 0, slots := 0, locals := 63 }, yX11_guest)
abbrev iX11_fell : mI := (RX11, cX11_fell, 3, (some .int), { frames := 2, cells := 0, slots := 0, locals := 42 }, yX11_fell)
abbrev iX11_brought : mI := (RX11, cX11_brought, 2, (some .int), { frames := 2, cells := 0, slots := 0, locals := 50 }, yX11_brought)
abbrev iX11_high : mI := (RX11, cX11_high, 4, (some .int), { frames := 2, cells := 0, slots := 0, locals := 42 }, yX11_high)
abbrev iX11_lean : mI := (RX11, cX11_lean, 4, (some .int), { frames := 2, cells := 0, slots := 0, locals := 44 }, yX11_lean)
abbrev iX11_breaches : mI := (RX11, cX11_breaches, 1, (some .int), { frames := 1, cells := 0, slots := 0, locals := 22 }, yX11_breaches)
abbrev iX11_watch : mI := (RX11, cX11_watch, 7, (some .int), { frames := 2, cells := 0, slots := 0, locals := 50 }, yX11_watch)
abbrev iX11_day : mI := (RX11, cX11_day, 3, (some .int), { frames := 2, cells := 0, slots := 0, locals := 42 }, yX11_day)
abbrev iX11_kind : mI := (RX11, cX11_kind, 2, (some .int), { frames := 4, cells := 0, slots := 0, locals := 92 }, yX11_kind)
abbrev iX11_as : mI := (RX11, cX11_as, 3, (some .int), { frames := 5, cells := 0, slots := 0, locals := 116 }, yX11_as)
abbrev iX11_ask : mI := (RX11, cX11_ask, 4, (some .int), { frames := 7, cells := 0, slots := 0, locals := 151 }, yX11_ask)
abbrev iX11_trace : mI := (RX11, cX11_trace, 2, (some .int), { frames := 1, cells := 0, slots := 0, locals := 22 }, yX11_trace)
abbrev iX11_count : mI := (RX11, cX11_count, 2, (some .int), { frames := 6, cells := 0, slots := 0, locals := 140 }, yX11_count)
abbrev iX11_status : mI := (RX11, cX11_status, 1, (some .int), { frames := 0, cells := 0, slots := 0, locals := 0 }, yX11_status)
abbrev iX11_found : mI := (RX11, cX11_found, 2, (some .int), { frames := 0, cells := 0, slots := 0, locals := 0 }, yX11_found)
abbrev iX11_fine : mI := (RX11, cX11_fine, 2, (some .int), { frames := 0, cells := 0, slots := 0, locals := 0 }, yX11_fine)
abbrev iX11_flawOf : mI := (RX11, cX11_flawOf, 4, (some .int), { frames := 1, cells := 0, slots := 0, locals := 23 }, yX11_flawOf)
abbrev iX11_isCart : mI := (RX11, cX11_isCart, 2, (some .boolean), { frames := 1, cells := 0, slots := 0, locals := 22 }, yX11_isCart)
abbrev iX11_isPass : mI := (RX11, cX11_isPass, 2, (some .boolean), { frames := 1, cells := 0, slots := 0, locals := 22 }, yX11_isPass)
abbrev iX11_isSheet : mI := (RX11, cX11_isSheet, 1, (some .boolean), { frames := 1, cells := 0, slots := 0, locals := 22 }, yX11_isSheet)
abbrev iX11_isGate : mI := (RX11, cX11_isGate, 1, (some .boolean), { frames := 1, cells := 0, slots := 0, locals := 22 }, yX11_isGate)
abbrev iX11_isTown : mI := (RX11, cX11_isTown, 1, (some .boolean), { frames := 1, cells := 0, slots := 0, locals := 22 }, yX11_isTown)
abbrev iX11_isPerson : mI := (RX11, cX11_isPerson, 1, (some .boolean), { frames := 1, cells := 0, slots := 0, locals := 22 }, yX11_isPerson)
abbrev iX11_isHouse : mI := (RX11, cX11_isHouse, 1, (some .boolean), { frames := 1, cells := 0, slots := 0, locals := 22 }, yX11_isHouse)
abbrev iX11_isLength : mI := (RX11, cX11_isLength, 1, (some .boolean), { frames := 1, cells := 0, slots := 0, locals := 22 }, yX11_isLength)
abbrev iX11_isDay : mI := (RX11, cX11_isDay, 1, (some .boolean), { frames := 1, cells := 0, slots := 0, locals := 22 }, yX11_isDay)
abbrev iX11_areDays : mI := (RX11, cX11_areDays, 2, (some .boolean), { frames := 2, cells := 0, slots := 0, locals := 42 }, yX11_areDays)
abbrev iX11_isMinute : mI := (RX11, cX11_isMinute, 1, (some .boolean), { frames := 1, cells := 0, slots := 0, locals := 22 }, yX11_isMinute)
abbrev iX11_isPlace : mI := (RX11, cX11_isPlace, 2, (some .boolean), { frames := 1, cells := 0, slots := 0, locals := 22 }, yX11_isPlace)
abbrev iX11_within : mI := (RX11, cX11_within, 3, (some .boolean), { frames := 0, cells := 0, slots := 0, locals := 0 }, yX11_within)
abbrev iX12_in : mI := (RX12, cX12_in, 6, (some .boolean), { frames := 0, cells := 0, slots := 0, locals := 0 }, yX12_in)
abbrev iX12_finding : mI := (RX12, cX12_finding, 2, (some .int), { frames := 0, cells := 0, slots := 0, locals := 0 }, yX12_finding)
abbrev iX12_isSheet : mI := (RX12, cX12_isSheet, 1, (some .boolean), { frames := 1, cells := 0, slots := 0, locals := 25 }, yX12_isSheet)
abbrev iX12_sheet : mI := (RX12, cX12_sheet, 5, (some .int), { frames := 2, cells := 0, slots := 0, locals := 45 }, yX12_sheet)
abbrev iX12_set : mI := (RX12, cX12_set, 4, (some .int), { frames := 2, cells := 0, slots := 0, locals := 45 }, yX12_set)
abbrev iX12_copy : mI := (RX12, cX12_copy, 9, (some .int), { frames := 2, cells := 0, slots := 0, locals := 45 }, yX12_copy)
abbrev iX12_drop : mI := (RX12, cX12_drop, 2, (some .int), { frames := 2, cells := 0, slots := 0, locals := 45 }, yX12_drop)
abbrev iX12_lookItems : mI := (RX12, cX12_lookItems, 4, (some .int), { frames := 1, cells := 0, slots := 0, locals := 21 }, yX12_lookItems)
abbrev iX12_isGate : mI := (RX12, cX12_isGate, 1, (some .boolean), { frames := 1, cells := 0, slots := 0, locals := 25 }, yX12_isGate)
abbrev iX12_isDay : mI := (RX12, cX12_isDay, 1, (some .boolean), { frames := 1, cells := 0, slots := 0, locals := 25 }, yX12_isDay)
abbrev iX12_isMinute : mI := (RX12, cX12_isMinute, 1, (some .boolean), { frames := 1, cells := 0, slots := 0, locals := 25 }, yX12_isMinute)
abbrev iX12_isSpot : mI := (RX12, cX12_isSpot, 2, (some .boolean), { frames := 1, cells := 0, slots := 0, locals := 25 }, yX12_isSpot)
abbrev iX12_bell : mI := (RX12, cX12_bell, 4, (some .int), { frames := 2, cells := 0, slots := 0, locals := 45 }, yX12_bell)
abbrev iX12_part : mI := (RX12, cX12_part, 4, (some .int), { frames := 2, cells := 0, slots := 0, locals := 45 }, yX12_part)
abbrev iX12_stands : mI := (RX12, cX12_stands, 4, (some .int), { frames := 2, cells := 0, slots := 0, locals := 46 }, yX12_stands)
abbrev iX12_isOpen : mI := (RX12, cX12_isOpen, 3, (some .boolean), { frames := 0, cells := 0, slots := 0, locals := 0 }, yX12_isOpen)
abbrev iX12_feed : mI := (RX12, cX12_feed, 5, (some .int), { frames := 1, cells := 0, slots := 0, locals := 25 }, yX12_feed)
abbrev iX12_byteAt : mI := (RX12, cX12_byteAt, 2, (some .int), { frames := 0, cells := 0, slots := 0, locals := 0 }, yX12_byteAt)
abbrev iX12_isLetter : mI := (RX12, cX12_isLetter, 1, (some .boolean), { frames := 0, cells := 0, slots := 0, locals := 0 }, yX12_isLetter)
abbrev iX12_isFigure : mI := (RX12, cX12_isFigure, 1, (some .boolean), { frames := 0, cells := 0, slots := 0, locals := 0 }, yX12_isFigure)
abbrev iX12_step : mI := (RX12, cX12_step, 2, none, { frames := 1, cells := 0, slots := 0, locals := 21 }, yX12_step)
abbrev iX12_bad : mI := (RX12, cX12_bad, 2, none, { frames := 0, cells := 0, slots := 0, locals := 0 }, yX12_bad)
abbrev iX12_need : mI := (RX12, cX12_need, 2, none, { frames := 2, cells := 0, slots := 0, locals := 42 }, yX12_need)
abbrev iX12_word : mI := (RX12, cX12_word, 4, (some .long), { frames := 0, cells := 0, slots := 0, locals := 0 }, yX12_word)
abbrev iX12_numberTo : mI := (RX12, cX12_numberTo, 4, (some .int), { frames := 3, cells := 0, slots := 0, locals := 63 }, yX12_numberTo)
abbrev iX12_lawOfWord : mI := (RX12, cX12_lawOfWord, 3, (some .int), { frames := 1, cells := 0, slots := 0, locals := 23 }, yX12_lawOfWord)
abbrev iX12_readLaw : mI := (RX12, cX12_readLaw, 3, none, { frames := 4, cells := 0, slots := 0, locals := 86 }, yX12_readLaw)
abbrev iX12_laws : mI := (RX12, cX12_laws, 3, (some .int), { frames := 5, cells := 0, slots := 0, locals := 108 }, yX12_laws)
abbrev iX12_fault : mI := (RX12, cX12_fault, 1, (some .int), { frames := 0, cells := 0, slots := 0, locals := 0 }, yX12_fault)
abbrev iX12_lawFor : mI := (RX12, cX12_lawFor, 8, (some .int), { frames := 0, cells := 0, slots := 0, locals := 0 }, yX12_lawFor)
abbrev iX12_numberFor : mI := (RX12, cX12_numberFor, 5, (some .int), { frames := 1, cells := 0, slots := 0, locals := 27 }, yX12_numberFor)
abbrev iX12_isGood : mI := (RX12, cX12_isGood, 4, (some .boolean), { frames := 1, cells := 0, slots := 0, locals := 27 }, yX12_isGood)
abbrev iX12_isBanned : mI := (RX12, cX12_isBanned, 4, (some .boolean), { frames := 1, cells := 0, slots := 0, locals := 27 }, yX12_isBanned)
abbrev iX12_holds : mI := (RX12, cX12_holds, 3, (some .int), { frames := 2, cells := 0, slots := 0, locals := 51 }, yX12_holds)
abbrev iX12_cart : mI := (RX12, cX12_cart, 6, (some .int), { frames := 2, cells := 0, slots := 0, locals := 45 }, yX12_cart)
abbrev iX12_isCart : mI := (RX12, cX12_isCart, 2, (some .boolean), { frames := 1, cells := 0, slots := 0, locals := 25 }, yX12_isCart)
abbrev iX12_owedBy : mI := (RX12, cX12_owedBy, 7, (some .int), { frames := 2, cells := 0, slots := 0, locals := 51 }, yX12_owedBy)
abbrev iX12_owed : mI := (RX12, cX12_owed, 6, (some .int), { frames := 3, cells := 0, slots := 0, locals := 77 }, yX12_owed)
abbrev iX12_pass : mI := (RX12, cX12_pass, 7, (some .int), { frames := 2, cells := 0, slots := 0, locals := 46 }, yX12_pass)
abbrev iX12_goThrough : mI := (RX12, cX12_goThrough, 10, none, { frames := 1, cells := 0, slots := 0, locals := 22 }, yX12_goThrough)
abbrev iX12_agree : mI := (RX12, cX12_agree, 2, (some .int), { frames := 2, cells := 0, slots := 0, locals := 51 }, yX12_agree)
abbrev iX12_amiss : mI := (RX12, cX12_amiss, 7, (some .int), { frames := 3, cells := 0, slots := 0, locals := 77 }, yX12_amiss)
abbrev iX12_isTown : mI := (RX12, cX12_isTown, 1, (some .boolean), { frames := 1, cells := 0, slots := 0, locals := 25 }, yX12_isTown)
abbrev iX12_isPerson : mI := (RX12, cX12_isPerson, 1, (some .boolean), { frames := 1, cells := 0, slots := 0, locals := 25 }, yX12_isPerson)
abbrev iX12_road : mI := (RX12, cX12_road, 6, (some .int), { frames := 2, cells := 0, slots := 0, locals := 45 }, yX12_road)
abbrev iX12_sick : mI := (RX12, cX12_sick, 4, (some .int), { frames := 2, cells := 0, slots := 0, locals := 45 }, yX12_sick)
abbrev iX12_seal : mI := (RX12, cX12_seal, 6, (some .int), { frames := 2, cells := 0, slots := 0, locals := 45 }, yX12_seal)
abbrev iX12_isPass : mI := (RX12, cX12_isPass, 2, (some .boolean), { frames := 1, cells := 0, slots := 0, locals := 25 }, yX12_isPass)
abbrev iX12_on : mI := (RX12, cX12_on, 3, (some .int), { frames := 0, cells := 0, slots := 0, locals := 0 }, yX12_on)
abbrev iX12_isForged : mI := (RX12, cX12_isForged, 5, (some .boolean), { frames := 2, cells := 0, slots := 0, locals := 50 }, yX12_isForged)
abbrev iX12_kindOf : mI := (RX12, cX12_kindOf, 3, (some .int), { frames := 3, cells := 0, slots := 0, locals := 74 }, yX12_kindOf)
abbrev iX12_canbe : mI := (RX12, cX12_canbe, 7, (some .int), { frames := 2, cells := 0, slots := 0, locals := 45 }, yX12_canbe)
abbrev iX12_lets : mI := (RX12, cX12_lets, 6, (some .int), { frames := 3, cells := 0, slots := 0, locals := 74 }, yX12_lets)
abbrev iX12_far : mI := (RX12, cX12_far, 2, (some .int), { frames := 0, cells := 0, slots := 0, locals := 0 }, yX12_far)
abbrev iX12_dusk : mI := (RX12, cX12_dusk, 9, (some .int), { frames := 2, cells := 0, slots := 0, locals := 46 }, yX12_dusk)
abbrev iX12_waitedAt : mI := (RX12, cX12_waitedAt, 13, (some .int), { frames := 0, cells := 0, slots := 0, locals := 0 }, yX12_waitedAt)
abbrev iX12_clerks : mI := (RX12, cX12_clerks, 15, (some .int), { frames := 2, cells := 0, slots := 0, locals := 45 }, yX12_clerks)
abbrev iX12_guest : mI := (RX12, cX12_guest, 5, (some .int), { frames := 2, cells := 0, slots := 0, locals := 45 }, yX12_guest)
abbrev iX12_fell : mI := (RX12, cX12_fell, 3, (some .int), { frames := 2, cells := 0, slots := 0, locals := 45 }, yX12_fell)
abbrev iX12_bits : mI := (RX12, cX12_bits, 3, (some .int), { frames := 0, cells := 0, slots := 0, locals := 0 }, yX12_bits)
abbrev iX12_whoMay : mI := (RX12, cX12_whoMay, 5, (some .int), { frames := 0, cells := 0, slots := 0, locals := 0 }, yX12_whoMay)
abbrev iX12_brought : mI := (RX12, cX12_brought, 8, (some .int), { frames := 1, cells := 0, slots := 0, locals := 25 }, yX12_brought)
abbrev iX12_isLength : mI := (RX12, cX12_isLength, 1, (some .boolean), { frames := 1, cells := 0, slots := 0, locals := 25 }, yX12_isLength)
abbrev iX12_high : mI := (RX12, cX12_high, 4, (some .int), { frames := 2, cells := 0, slots := 0, locals := 45 }, yX12_high)
abbrev iX12_lean : mI := (RX12, cX12_lean, 4, (some .int), { frames := 2, cells := 0, slots := 0, locals := 45 }, yX12_lean)
abbrev iX12_breachesNow : mI := (RX12, cX12_breachesNow, 6, (some .int), { frames := 0, cells := 0, slots := 0, locals := 0 }, yX12_breachesNow)
abbrev iX12_breaches : mI := (RX12, cX12_breaches, 1, (some .int), { frames := 1, cells := 0, slots := 0, locals := 25 }, yX12_breaches)
abbrev iX12_watch : mI := (RX12, cX12_watch, 11, (some .int), { frames := 2, cells := 0, slots := 0, locals := 45 }, yX12_watch)
abbrev iX12_day : mI := (RX12, cX12_day, 3, (some .int), { frames := 2, cells := 0, slots := 0, locals := 45 }, yX12_day)
abbrev iX12_isOf : mI := (RX12, cX12_isOf, 2, (some .boolean), { frames := 0, cells := 0, slots := 0, locals := 0 }, yX12_isOf)
abbrev iX12_kind : mI := (RX12, cX12_kind, 2, (some .int), { frames := 4, cells := 0, slots := 0, locals := 96 }, yX12_kind)
abbrev iX12_as : mI := (RX12, cX12_as, 3, (some .int), { frames := 4, cells := 0, slots := 0, locals := 96 }, yX12_as)
abbrev iX12_began : mI := (RX12, cX12_began, 2, none, { frames := 0, cells := 0, slots := 0, locals := 0 }, yX12_began)
abbrev iX12_nightSize : mI := (RX12, cX12_nightSize, 2, (some .int), { frames := 1, cells := 0, slots := 0, locals := 22 }, yX12_nightSize)
abbrev iX12_markOf : mI := (RX12, cX12_markOf, 4, (some .int), { frames := 2, cells := 0, slots := 0, locals := 43 }, yX12_markOf)
abbrev iX12_sizeOf : mI := (RX12, cX12_sizeOf, 4, (some .int), { frames := 3, cells := 0, slots := 0, locals := 66 }, yX12_sizeOf)
abbrev iX12_ask : mI := (RX12, cX12_ask, 4, (some .int), { frames := 4, cells := 0, slots := 0, locals := 96 }, yX12_ask)
abbrev iX12_trace : mI := (RX12, cX12_trace, 2, (some .int), { frames := 1, cells := 0, slots := 0, locals := 25 }, yX12_trace)
abbrev iX12_count : mI := (RX12, cX12_count, 4, (some .int), { frames := 4, cells := 0, slots := 0, locals := 96 }, yX12_count)
abbrev iX12_status : mI := (RX12, cX12_status, 1, (some .int), { frames := 0, cells := 0, slots := 0, locals := 0 }, yX12_status)
abbrev iJ6_bitCount_0f7a4 : mI := (RJ6, cJ6_bitCount_0f7a4, 1, (some .int), { frames := 0, cells := 0, slots := 0, locals := 0 }, yJ6_bitCount_0f7a4)
abbrev iJ9_abs_0f7a4 : mI := (RJ9, cJ9_abs_0f7a4, 1, (some .int), { frames := 0, cells := 0, slots := 0, locals := 0 }, yJ9_abs_0f7a4)
abbrev iJ9_max_7cf53 : mI := (RJ9, cJ9_max_7cf53, 2, (some .int), { frames := 0, cells := 0, slots := 0, locals := 0 }, yJ9_max_7cf53)
abbrev iJ0_length_8abf5 : mI := (RJ0, cJ0_length_8abf5, 1, (some .int), { frames := 1, cells := 0, slots := 0, locals := 20 }, yJ0_length_8abf5)
abbrev iJ0_charAt_5068e : mI := (RJ0, cJ0_charAt_5068e, 2, (some .char), { frames := 4, cells := 0, slots := 0, locals := 85 }, yJ0_charAt_5068e)
abbrev iJ0_coder_7d493 : mI := (RJ0, cJ0_coder_7d493, 1, (some .byte), { frames := 0, cells := 0, slots := 0, locals := 0 }, yJ0_coder_7d493)
abbrev iJ0_isLatin1_aae02 : mI := (RJ0, cJ0_isLatin1_aae02, 1, (some .boolean), { frames := 0, cells := 0, slots := 0, locals := 0 }, yJ0_isLatin1_aae02)
abbrev iJ0_checkIndex_df160 : mI := (RJ0, cJ0_checkIndex_df160, 2, none, { frames := 1, cells := 0, slots := 0, locals := 22 }, yJ0_checkIndex_df160)
abbrev iJ1_charAt_3b067 : mI := (RJ1, cJ1_charAt_3b067, 2, (some .char), { frames := 2, cells := 0, slots := 0, locals := 43 }, yJ1_charAt_3b067)
abbrev iJ2_getChar_3b067 : mI := (RJ2, cJ2_getChar_3b067, 2, (some .char), { frames := 1, cells := 0, slots := 0, locals := 20 }, yJ2_getChar_3b067)
abbrev iJ2_length_9d52b : mI := (RJ2, cJ2_length_9d52b, 1, (some .int), { frames := 0, cells := 0, slots := 0, locals := 0 }, yJ2_length_9d52b)
abbrev iJ2_charAt_3b067 : mI := (RJ2, cJ2_charAt_3b067, 2, (some .char), { frames := 3, cells := 0, slots := 0, locals := 64 }, yJ2_charAt_3b067)
abbrev iJ2_checkIndex_2214a : mI := (RJ2, cJ2_checkIndex_2214a, 2, none, { frames := 2, cells := 0, slots := 0, locals := 43 }, yJ2_checkIndex_2214a)
abbrev iJ3_checkIndex_8e157 : mI := (RJ3, cJ3_checkIndex_8e157, 3, (some .int), { frames := 0, cells := 0, slots := 0, locals := 0 }, yJ3_checkIndex_8e157)
end
section
/-! THE SMALL MACHINE: a state (int fields, int arrays), its cells, and 'from here the method comes to an end with Q' -/
abbrev sg : Type := (Nat → Nat → Int32) × (Nat → Nat → Int32)
def sI (u : sg) (o k : Nat) (x : Int32) : sg := (fun a b => if a = o ∧ b = k then x else u.1 a b, u.2)
def sF (u : sg) (a : Nat) (f : Nat → Int32) : sg := (u.1, fun b => if b = a then f else u.2 b)
abbrev sA (u : sg) (a i : Nat) (x : Int32) : sg := sF u a (upd (u.2 a) i x)
/-- launch; the classes' numbers; their slots; the class of int[]; addresses of the world's cells, of the static arrays, of the texts, of the texts' bytes -/
abbrev gp : Type := Launch × (Nat → ClassId) × (Nat → Nat → Nat) × ClassId × (Nat → Nat) × (Nat → Nat) × (Nat → Nat) × (Nat → Nat)
abbrev gL (g : gp) : Launch := g.1
abbrev gD (g : gp) : va_G := (g.2.1, g.2.2.1)
abbrev gA (g : gp) : ClassId := g.2.2.2.1
abbrev gd (g : gp) : Nat → Nat := g.2.2.2.2.1
abbrev gt (g : gp) : Nat → Nat := g.2.2.2.2.2.1
abbrev gk (g : gp) : Nat → Nat := g.2.2.2.2.2.2.1
abbrev gv (g : gp) : Nat → Nat := g.2.2.2.2.2.2.2
def rt (o k : Nat) : Option Nat := (rtL.getD o []).getD k none
def al (k : Nat) : Nat := alL.getD (k - nO) 0
def fv (g : gp) (u : sg) (o k : Nat) : Value := match rt o k with
  | some t => .ref (gd g t)
  | none => .int (u.1 o k)
def fs (g : gp) (u : sg) (o : Nat) : List Value := (List.range (rtL.getD o []).length).map (fv g u o)
def ce (g : gp) (u : sg) (k : Nat) : va_E := if k < nO then .inr (ocL.getD k 0, fs g u k) else .inl (gA g, al k, .inl (u.2 k))
def wd (g : gp) (u : sg) : va_W := (List.range nW).map (fun k => (gd g k, ce g u k))
def wA (g : gp) : Nat → Prop := fun q => ∃ k, k < nW ∧ q = gd g k
theorem wd_at {g : gp} {u : sg} {k : Nat} (h : k < nW) : (wd g u)[k]? = some (gd g k, ce g u k) := by
  simp [wd, h]
theorem wd_of {g : gp} {u : sg} {k : Nat} {q : Nat × va_E} (h : (wd g u)[k]? = some q) : k < nW ∧ q = (gd g k, ce g u k) := by
  have hk : k < nW := by
    have h1 := (List.getElem?_eq_some_iff.mp h).1
    simpa [wd] using h1
  exact ⟨hk, Option.some.inj (h.symm.trans (wd_at hk))⟩
theorem wd_out {g : gp} {u : sg} {k : Nat} (h : ¬ k < nW) : (wd g u)[k]? = none := by
  rw [List.getElem?_eq_none_iff]
  simp [wd]
  omega
theorem wd_len {g : gp} {u : sg} : (wd g u).length = nW := by simp [wd]
def gOk (g : gp) : Prop := ∀ i j, i < nW → j < nW → gd g i = gd g j → i = j
theorem wd_D {g : gp} (hi : gOk g) (u : sg) : va_D (wA g) (wd g u) := by
  refine ⟨fun i j p q h1 h2 e => ?_, fun k q h => ?_⟩
  · obtain ⟨a1, rfl⟩ := wd_of h1
    obtain ⟨b1, rfl⟩ := wd_of h2
    exact hi i j a1 b1 e
  · obtain ⟨a1, rfl⟩ := wd_of h
    exact ⟨k, a1, rfl⟩
theorem fs_at {g : gp} {u : sg} {o k : Nat} (h : k < (rtL.getD o []).length) : (fs g u o)[k]? = some (fv g u o k) := by
  unfold fs
  rw [List.getElem?_map, List.getElem?_range h]
  rfl
theorem fs_len {g : gp} {u : sg} {o : Nat} : (fs g u o).length = (rtL.getD o []).length := by simp [fs]
theorem wd_sF {g : gp} {u : sg} {k : Nat} (f : Nat → Int32) (h1 : k < nW) (h2 : ¬ k < nO) : (wd g u).set k (gd g k, .inl (gA g, al k, .inl f)) = wd g (sF u k f) := by
  apply List.ext_getElem?
  intro j
  rw [List.getElem?_set, wd_len]
  by_cases hj : k = j
  · subst hj
    rw [if_pos rfl, if_pos h1, wd_at h1]
    simp [ce, h2, sF]
  · rw [if_neg hj]
    by_cases hn : j < nW
    · rw [wd_at hn, wd_at hn]
      have e1 : (sF u k f).2 j = u.2 j := by simp [sF, Ne.symm hj]
      have e2 : fs g (sF u k f) j = fs g u j := rfl
      simp only [ce, e1, e2]
    · rw [wd_out hn, wd_out hn]
theorem fs_sI {g : gp} {u : sg} {o k : Nat} (x : Int32) (hr : rt o k = none) (hk : k < (rtL.getD o []).length) : (fs g u o).set k (.int x) = fs g (sI u o k x) o := by
  apply List.ext_getElem?
  intro j
  rw [List.getElem?_set, fs_len]
  by_cases hj : k = j
  · subst hj
    rw [if_pos rfl, if_pos hk, fs_at hk]
    simp [fv, hr, sI]
  · rw [if_neg hj]
    by_cases hn : j < (rtL.getD o []).length
    · rw [fs_at hn, fs_at hn]
      unfold fv
      cases rt o j with
      | none => simp [sI, Ne.symm hj]
      | some t => rfl
    · rw [List.getElem?_eq_none_iff.mpr (by rw [fs_len]; omega), List.getElem?_eq_none_iff.mpr (by rw [fs_len]; omega)]
theorem wd_sI {g : gp} {u : sg} {o k : Nat} (x : Int32) (h1 : o < nW) (h2 : o < nO) (hr : rt o k = none) (hk : k < (rtL.getD o []).length) : (wd g u).set o (gd g o, .inr (ocL.getD o 0, (fs g u o).set k (.int x))) = wd g (sI u o k x) := by
  apply List.ext_getElem?
  intro j
  rw [List.getElem?_set, wd_len]
  by_cases hj : o = j
  · subst hj
    rw [if_pos rfl, if_pos h1, wd_at h1]
    simp only [ce, h2, if_true]
    rw [fs_sI x hr hk]
  · rw [if_neg hj]
    by_cases hn : j < nW
    · rw [wd_at hn, wd_at hn]
      have e2 : fs g (sI u o k x) j = fs g u j := by
        apply List.ext_getElem?
        intro i
        by_cases hi : i < (rtL.getD j []).length
        · rw [fs_at hi, fs_at hi]
          unfold fv
          cases rt j i with
          | none => simp [sI, Ne.symm hj]
          | some t => rfl
        · rw [List.getElem?_eq_none_iff.mpr (by rw [fs_len]; omega), List.getElem?_eq_none_iff.mpr (by rw [fs_len]; omega)]
      have e1 : (sI u o k x).2 j = u.2 j := rfl
      simp only [ce, e1, e2]
    · rw [wd_out hn, wd_out hn]
/-! what the tables and the start say of static arrays, texts and private members of nest mates -/
def nests : List Cond := [.methodLinkNest RX11 25 yX1_init "DuskGates", .methodLinkNest RX11 66 yX6_init "DuskGates", .methodLinkNest RX11 87 yX3_init "DuskGates", .methodLinkNest RX1 21 yX11_within "DuskGates", .methodLinkNest RX2 82 yX11_within "DuskGates", .methodLinkNest RX5 91 yX11_within "DuskGates"]
def xt (g : gp) (U : State) (H : Heap) : Prop :=
  (∀ i, i < 3 → va_Z (stC.getD i "") (stN.getD i "") "[I" (.ref (gt g i)) (wA g) U H ∧ va_T .int (gt g i) (stV.getD i []).length (fun j => .int ((stV.getD i []).getD j 0)) (wA g) U H) ∧
  va_Z "java/lang/String" "COMPACT_STRINGS" "Z" (.int 1) (wA g) U H ∧ vk_S 8 skL skB (gk g) (gv g) (wA g) U H ∧ (∀ i, i < 8 → vk_R skO (skI.getD i 0) (skT.getD i "") (gk g i) U) ∧ ∀ w ∈ nests, va_Nw w U
theorem xt.kept {g : gp} {U : State} {H H1 : Heap} (h : xt g U H) (hq : ∀ a : Nat, a < H.size → ¬ wA g a → H1[a]? = H[a]?) : xt g U H1 :=
  ⟨fun i hi => ⟨(h.1 i hi).1.kept hq, (h.1 i hi).2.kept hq⟩, h.2.1.kept hq, h.2.2.1.kept hq, h.2.2.2⟩
theorem nests_warm {s U : State} (hW : s.WarmedH U.vm) : (∀ w ∈ nests, va_Nw w s) → ∀ w ∈ nests, va_Nw w U := by
  intro h w hw
  have h1 := h w hw
  simp only [nests, List.mem_cons, List.not_mem_nil, or_false] at hw
  rcases hw with rfl | rfl | rfl | rfl | rfl | rfl <;> exact va_Nw.warmM hW h1
theorem nests_same {u U : State} (hv : u.vm = U.vm) : (∀ w ∈ nests, va_Nw w u) → ∀ w ∈ nests, va_Nw w U := by
  intro h w hw
  have h1 := h w hw
  simp only [nests, List.mem_cons, List.not_mem_nil, or_false] at hw
  rcases hw with rfl | rfl | rfl | rfl | rfl | rfl <;> exact va_Nw.same rfl hv h1
theorem xt.warm {g : gp} {s U : State} {H : Heap} (hW : s.WarmedH U.vm) (h : xt g s H) : xt g U H :=
  ⟨fun i hi => ⟨(h.1 i hi).1.moved hW.alike, (h.1 i hi).2.moved hW.alike⟩, h.2.1.moved hW.alike, h.2.2.1.moved hW.alike, fun i hi => (h.2.2.2.1 i hi).warm hW, nests_warm hW h.2.2.2.2⟩
theorem xt.same {g : gp} {u U : State} {H : Heap} (hv : U.vm = u.vm) (h : xt g u H) : xt g U H := by
  have ha : u.vm.Alike U.vm := by rw [hv]; exact Vm.Alike.refl _
  exact ⟨fun i hi => ⟨(h.1 i hi).1.moved ha, (h.1 i hi).2.moved ha⟩, h.2.1.moved ha, h.2.2.1.moved ha, fun i hi => (h.2.2.2.1 i hi).same hv, nests_same hv.symm h.2.2.2.2⟩
/-! locals, by their places -/
def prs : Nat → List (Option Value) → List (Nat × Value)
  | _, [] => []
  | k, none :: t => prs (k + 1) t
  | k, some v :: t => (k, v) :: prs (k + 1) t
theorem prs_mem : ∀ (ll : List (Option Value)) (k j : Nat) (v : Value), (j, v) ∈ prs k ll ↔ ∃ i, j = k + i ∧ ll[i]? = some (some v)
  | [], k, j, v => by simp [prs]
  | none :: t, k, j, v => by
    rw [prs, prs_mem t (k + 1) j v]
    constructor
    · rintro ⟨i, h1, h2⟩
      exact ⟨i + 1, by omega, by simpa using h2⟩
    · rintro ⟨i, h1, h2⟩
      cases i with
      | zero => simp at h2
      | succ i => exact ⟨i, by omega, by simpa using h2⟩
  | some w :: t, k, j, v => by
    rw [prs, List.mem_cons, prs_mem t (k + 1) j v]
    constructor
    · rintro (h | ⟨i, h1, h2⟩)
      · obtain ⟨rfl, rfl⟩ := Prod.mk.inj h
        exact ⟨0, by omega, by simp⟩
      · exact ⟨i + 1, by omega, by simpa using h2⟩
    · rintro ⟨i, h1, h2⟩
      cases i with
      | zero =>
        left
        have h3 : w = v := by simpa using h2
        rw [h1, h3]
        rfl
      | succ i => exact Or.inr ⟨i, by omega, by simpa using h2⟩
def lh (ls : Array Slot) (n : Nat) (ll : List (Option Value)) : Prop := lv_has ls n (prs 0 ll)
theorem lh_at {ls : Array Slot} {n : Nat} {ll : List (Option Value)} (h : lh ls n ll) {i : Nat} {v : Value} (hi : ll[i]? = some (some v)) : ls[i]? = some (.val v) :=
  h.2.2 (i, v) ((prs_mem ll 0 i v).mpr ⟨i, by omega, hi⟩)
/-- no long stands just before place i -/
def nl (ll : List (Option Value)) (i : Nat) : Bool := match i with
  | 0 => true
  | j + 1 => match ll[j]? with
    | some (some v) => v.category == 1
    | _ => true
theorem nl_spec {ll : List (Option Value)} {i j : Nat} {v : Value} (h : nl ll i = true) (hj : j + 1 = i) (hv : ll[j]? = some (some v)) : ¬ v.category = 2 := by
  subst hj
  simp only [nl, hv] at h
  intro e
  rw [e] at h
  cases h
theorem lh_set1 {ls : Array Slot} {n i : Nat} {ll : List (Option Value)} {v : Value} (hn : nl ll i = true) (h : lv_has ls n ((i, v) :: (prs 0 ll).filter (fun q => !(q.1 == i) && !(q.1 + 1 == i && q.2.category == 2)))) : lh ls n (ll.set i (some v)) := by
  refine ⟨h.1, h.2.1, fun q hq => h.2.2 q ?_⟩
  obtain ⟨j, w⟩ := q
  obtain ⟨a, ha, hw⟩ := (prs_mem _ 0 j w).mp hq
  have ha : j = a := by omega
  subst ha
  rw [List.getElem?_set] at hw
  by_cases e : i = j
  · rw [if_pos e] at hw
    subst e
    split at hw
    · cases hw
      exact List.mem_cons_self
    · cases hw
  · rw [if_neg e] at hw
    refine List.mem_cons_of_mem _ (List.mem_filter.mpr ⟨(prs_mem ll 0 j w).mpr ⟨j, by omega, hw⟩, ?_⟩)
    have e1 : (j == i) = false := by simp; omega
    simp only [e1, Bool.not_false, Bool.true_and]
    by_cases e2 : j + 1 = i
    · have e3 := nl_spec hn e2 hw
      simp [e3]
    · simp [e2]
theorem lh_set2 {ls : Array Slot} {n i : Nat} {ll : List (Option Value)} {v : Value} (hn : nl ll i = true) (h : lv_has ls n ((i, v) :: (prs 0 ll).filter (fun q => !(q.1 == i) && (!(q.1 == i + 1) && !(q.1 + 1 == i && q.2.category == 2))))) : lh ls n ((ll.set i (some v)).set (i + 1) none) := by
  refine ⟨h.1, h.2.1, fun q hq => h.2.2 q ?_⟩
  obtain ⟨j, w⟩ := q
  obtain ⟨a, ha, hw⟩ := (prs_mem _ 0 j w).mp hq
  have ha : j = a := by omega
  subst ha
  rw [List.getElem?_set] at hw
  by_cases e0 : i + 1 = j
  · rw [if_pos e0] at hw
    split at hw <;> simp at hw
  rw [if_neg e0, List.getElem?_set] at hw
  by_cases e : i = j
  · rw [if_pos e] at hw
    subst e
    split at hw
    · cases hw
      exact List.mem_cons_self
    · cases hw
  · rw [if_neg e] at hw
    refine List.mem_cons_of_mem _ (List.mem_filter.mpr ⟨(prs_mem ll 0 j w).mpr ⟨j, by omega, hw⟩, ?_⟩)
    have e1 : (j == i) = false := by simp; omega
    have e4 : (j == i + 1) = false := by simp; omega
    simp only [e1, e4, Bool.not_false, Bool.true_and]
    by_cases e2 : j + 1 = i
    · have e3 := nl_spec hn e2 hw
      simp [e3]
    · simp [e2]
/-- the locals with which a method begins -/
def en : List Value → List (Option Value)
  | [] => []
  | v :: vs => if v.category = 2 then some v :: none :: en vs else some v :: en vs
theorem en_args : ∀ (vs : List Value) (k : Nat), prs k (en vs) = lv_args k vs
  | [], k => rfl
  | v :: vs, k => by
    rw [en, lv_args]
    by_cases h : v.category = 2
    · rw [if_pos h, if_pos h, prs, prs, en_args vs (k + 2)]
    · rw [if_neg h, if_neg h, prs, en_args vs (k + 1)]
theorem prs_none : ∀ (ll : List (Option Value)) (k n : Nat), prs k (ll ++ List.replicate n none) = prs k ll
  | [], k, 0 => rfl
  | [], k, n + 1 => by
    show prs (k + 1) (List.replicate n none) = []
    exact prs_none [] (k + 1) n
  | none :: t, k, n => prs_none t (k + 1) n
  | some v :: t, k, n => by
    show (k, v) :: prs (k + 1) (t ++ List.replicate n none) = (k, v) :: prs (k + 1) t
    rw [prs_none t (k + 1) n]
end
section
/-! THE SMALL MACHINE'S ROWS -/
abbrev mO (i : mI) : String := i.1
abbrev mC (i : mI) : ByteArray := i.2.1
abbrev mL (i : mI) : Nat := i.2.2.1
abbrev mR (i : mI) : Option FieldType := i.2.2.2.1
abbrev mM (i : mI) : Room := i.2.2.2.2.1
abbrev mY (i : mI) : MethodName := i.2.2.2.2.2
def Cx (g : gp) (i : mI) (p : Program) (s : State) (m : MethodId) (args : Array Value) (meth : Method) (c : Code) : Prop :=
  p.tables.exec = Jvm.exec ∧ c.code = mC i ∧ c.maxLocals = mL i ∧ meth.sig.returnType = mR i ∧ meth.locks = false ∧ s.vm.findClass (mO i) = some m.cls ∧ (∀ w ∈ TB, w.before args s = true) ∧ va_K (gD g) vwCl [(gA g, .int)] s ∧ gOk g ∧ xt g s s.heap
def Gx (g : gp) (i : mI) (p : Program) (e : Env) (R : Room) (s : State) (m : MethodId) (args : Array Value) (below : List Frame) (meth : Method) (c : Code) (cells slots : Nat) (Q : State → Prop) (pc : Nat) (ll : List (Option Value)) (st : List Value) (u : sg) : Prop :=
  ∀ (H : Heap) (locs : List Loc) (ls : Array Slot), va_P (gD g) vwCl (wd g u) H → va_S (wA g) s.heap H locs → lh ls (mL i) ll → W p (gL g) e R s m args below meth c H locs cells slots Q (F0 m pc ls st)
def Qr (g : gp) (Q : Option Value → sg → Prop) : Array Value → State → Outcome → State → Prop := fun _ st oc t => (∃ (v : Option Value) (u : sg), oc = .returned v ∧ Q v u ∧ va_P (gD g) vwCl (wd g u) t.heap) ∧ va_F (wA g) st t
/-- method i, at pc, with these locals, this stack and this state, comes to an end with Q -/
def Go (g : gp) (i : mI) (pc : Nat) (ll : List (Option Value)) (st : List Value) (u : sg) (Q : Option Value → sg → Prop) : Prop :=
  ∀ (p : Program) (e : Env) (s : State) (m : MethodId) (args : Array Value) (below : List Frame) (meth : Method) (c : Code), Cx g i p s m args meth c → Gx g i p e (mM i) s m args below meth c 0 0 (MQ below (Qr g Q) args s 0 0 (wA g)) pc ll st u
def QI (P : Int32 → sg → Prop) : Option Value → sg → Prop := fun v u => ∃ r : Int32, v = some (.int r) ∧ P r u
def QL (P : Int64 → sg → Prop) : Option Value → sg → Prop := fun v u => ∃ r : Int64, v = some (.long r) ∧ P r u
def QV (P : sg → Prop) : Option Value → sg → Prop := fun v u => v = none ∧ P u
/-- an object of the world: its class, its fields -/
def obF (o : Nat) (C : String) (T : u_T) (N : Nat) : Prop := (∀ w ∈ u_ws C T N, w ∈ TB) ∧ vwCl[ocL.getD o 0]? = some (C, T, N) ∧ o < nO ∧ (rtL.getD o []).length = N ∧ (∀ a, a < N → ∀ b, b < N → a ≠ b → (T a).2.1 ≠ (T b).2.1) ∧ ∃ ty : Nat → FieldType, ∀ k, k < N → parseFieldDescriptor (T k).2.2.1 = some (ty k)
theorem ob_0 : obF 0 RX11 TX11 13 := ⟨qu_X11, rfl, by decide, rfl, nmX11, tyX11, tyX11_ok⟩
theorem ob_1 : obF 1 RX0 TX0 3 := ⟨qu_X0, rfl, by decide, rfl, nmX0, tyX0, tyX0_ok⟩
theorem ob_2 : obF 2 RX1 TX1 5 := ⟨qu_X1, rfl, by decide, rfl, nmX1, tyX1, tyX1_ok⟩
theorem ob_3 : obF 3 RX2 TX2 10 := ⟨qu_X2, rfl, by decide, rfl, nmX2, tyX2, tyX2_ok⟩
theorem ob_4 : obF 4 RX3 TX3 3 := ⟨qu_X3, rfl, by decide, rfl, nmX3, tyX3, tyX3_ok⟩
theorem ob_5 : obF 5 RX4 TX4 5 := ⟨qu_X4, rfl, by decide, rfl, nmX4, tyX4, tyX4_ok⟩
theorem ob_6 : obF 6 RX5 TX5 10 := ⟨qu_X5, rfl, by decide, rfl, nmX5, tyX5, tyX5_ok⟩
theorem ob_7 : obF 7 RX6 TX6 7 := ⟨qu_X6, rfl, by decide, rfl, nmX6, tyX6, tyX6_ok⟩
theorem ob_8 : obF 8 RX7 TX7 9 := ⟨qu_X7, rfl, by decide, rfl, nmX7, tyX7, tyX7_ok⟩
theorem ob_9 : obF 9 RX8 TX8 3 := ⟨qu_X8, rfl, by decide, rfl, nmX8, tyX8, tyX8_ok⟩
theorem ob_10 : obF 10 RX9 TX9 6 := ⟨qu_X9, rfl, by decide, rfl, nmX9, tyX9, tyX9_ok⟩
theorem ob_11 : obF 11 RX10 TX10 4 := ⟨qu_X10, rfl, by decide, rfl, nmX10, tyX10, tyX10_ok⟩
theorem ob_12 : obF 12 RX12 TX12 61 := ⟨qu_X12, rfl, by decide, rfl, nmX12, tyX12, tyX12_ok⟩
theorem gx_iconst {g : gp} {i : mI} {p : Program} {e : Env} {R : Room} {s : State} {m : MethodId} {args : Array Value} {below : List Frame} {meth : Method} {c : Code} {cells slots : Nat} {Q : State → Prop} {pc : Nat} {ll : List (Option Value)} {st : List Value} {u : sg} {n : Int} {v : Int32} (C : Cx g i p s m args meth c) (hd : decode (mC i) pc = .ok (.iconst n, 1)) (hv : Int32.ofInt n = v) (k0 : Gx g i p e R s m args below meth c cells slots Q (pc + 1) (ll) (.int v :: st) (u)) : Gx g i p e R s m args below meth c cells slots Q (pc) (ll) (st) (u) := by
  obtain ⟨hx, hb, hml, hr, hlk, hown, hts, hK, hok, hxt⟩ := C
  intro H locs ls hP hS hl
  exact lv_iconst hx hb hd hv (k0 H locs ls hP hS hl)
theorem go_iconst {g : gp} {i : mI} {pc : Nat} {ll : List (Option Value)} {st : List Value} {u : sg} {Q : Option Value → sg → Prop} {n : Int} {v : Int32} (hd : decode (mC i) pc = .ok (.iconst n, 1)) (hv : Int32.ofInt n = v) (k0 : Go g i (pc + 1) (ll) (.int v :: st) (u) Q) : Go g i (pc) (ll) (st) (u) Q := fun p e s m args below meth c C => gx_iconst C hd hv (k0 p e s m args below meth c C)
theorem gx_bipush {g : gp} {i : mI} {p : Program} {e : Env} {R : Room} {s : State} {m : MethodId} {args : Array Value} {below : List Frame} {meth : Method} {c : Code} {cells slots : Nat} {Q : State → Prop} {pc : Nat} {ll : List (Option Value)} {st : List Value} {u : sg} {n : Int} {v : Int32} (C : Cx g i p s m args meth c) (hd : decode (mC i) pc = .ok (.bipush n, 2)) (hv : (Int8.ofInt n).toInt32 = v) (k0 : Gx g i p e R s m args below meth c cells slots Q (pc + 2) (ll) (.int v :: st) (u)) : Gx g i p e R s m args below meth c cells slots Q (pc) (ll) (st) (u) := by
  obtain ⟨hx, hb, hml, hr, hlk, hown, hts, hK, hok, hxt⟩ := C
  intro H locs ls hP hS hl
  exact lv_bipush hx hb hd hv (k0 H locs ls hP hS hl)
theorem go_bipush {g : gp} {i : mI} {pc : Nat} {ll : List (Option Value)} {st : List Value} {u : sg} {Q : Option Value → sg → Prop} {n : Int} {v : Int32} (hd : decode (mC i) pc = .ok (.bipush n, 2)) (hv : (Int8.ofInt n).toInt32 = v) (k0 : Go g i (pc + 2) (ll) (.int v :: st) (u) Q) : Go g i (pc) (ll) (st) (u) Q := fun p e s m args below meth c C => gx_bipush C hd hv (k0 p e s m args below meth c C)
theorem gx_sipush {g : gp} {i : mI} {p : Program} {e : Env} {R : Room} {s : State} {m : MethodId} {args : Array Value} {below : List Frame} {meth : Method} {c : Code} {cells slots : Nat} {Q : State → Prop} {pc : Nat} {ll : List (Option Value)} {st : List Value} {u : sg} {n : Int} {v : Int32} (C : Cx g i p s m args meth c) (hd : decode (mC i) pc = .ok (.sipush n, 3)) (hv : (Int16.ofInt n).toInt32 = v) (k0 : Gx g i p e R s m args below meth c cells slots Q (pc + 3) (ll) (.int v :: st) (u)) : Gx g i p e R s m args below meth c cells slots Q (pc) (ll) (st) (u) := by
  obtain ⟨hx, hb, hml, hr, hlk, hown, hts, hK, hok, hxt⟩ := C
  intro H locs ls hP hS hl
  exact lv_sipush hx hb hd hv (k0 H locs ls hP hS hl)
theorem go_sipush {g : gp} {i : mI} {pc : Nat} {ll : List (Option Value)} {st : List Value} {u : sg} {Q : Option Value → sg → Prop} {n : Int} {v : Int32} (hd : decode (mC i) pc = .ok (.sipush n, 3)) (hv : (Int16.ofInt n).toInt32 = v) (k0 : Go g i (pc + 3) (ll) (.int v :: st) (u) Q) : Go g i (pc) (ll) (st) (u) Q := fun p e s m args below meth c C => gx_sipush C hd hv (k0 p e s m args below meth c C)
theorem gx_lconst {g : gp} {i : mI} {p : Program} {e : Env} {R : Room} {s : State} {m : MethodId} {args : Array Value} {below : List Frame} {meth : Method} {c : Code} {cells slots : Nat} {Q : State → Prop} {pc : Nat} {ll : List (Option Value)} {st : List Value} {u : sg} {n : Fin 2} {v : Int64} (C : Cx g i p s m args meth c) (hd : decode (mC i) pc = .ok (.lconst n, 1)) (hv : Int64.ofNat (n : Nat) = v) (k0 : Gx g i p e R s m args below meth c cells slots Q (pc + 1) (ll) (.long v :: st) (u)) : Gx g i p e R s m args below meth c cells slots Q (pc) (ll) (st) (u) := by
  obtain ⟨hx, hb, hml, hr, hlk, hown, hts, hK, hok, hxt⟩ := C
  intro H locs ls hP hS hl
  exact lv_lconst hx hb hd hv (k0 H locs ls hP hS hl)
theorem go_lconst {g : gp} {i : mI} {pc : Nat} {ll : List (Option Value)} {st : List Value} {u : sg} {Q : Option Value → sg → Prop} {n : Fin 2} {v : Int64} (hd : decode (mC i) pc = .ok (.lconst n, 1)) (hv : Int64.ofNat (n : Nat) = v) (k0 : Go g i (pc + 1) (ll) (.long v :: st) (u) Q) : Go g i (pc) (ll) (st) (u) Q := fun p e s m args below meth c C => gx_lconst C hd hv (k0 p e s m args below meth c C)
theorem gx_ldc {g : gp} {i : mI} {p : Program} {e : Env} {R : Room} {s : State} {m : MethodId} {args : Array Value} {below : List Frame} {meth : Method} {c : Code} {cells slots : Nat} {Q : State → Prop} {pc : Nat} {ll : List (Option Value)} {st : List Value} {u : sg} {n : Nat} {v : Int32} (C : Cx g i p s m args meth c) (hd : decode (mC i) pc = .ok (.ldc n, 2)) (hw : Cond.constant (mO i) n v ∈ TB) (k0 : Gx g i p e R s m args below meth c cells slots Q (pc + 2) (ll) (.int v :: st) (u)) : Gx g i p e R s m args below meth c cells slots Q (pc) (ll) (st) (u) := by
  obtain ⟨hx, hb, hml, hr, hlk, hown, hts, hK, hok, hxt⟩ := C
  intro H locs ls hP hS hl
  exact lv_ldc hx hb hown (hts _ hw) hd (k0 H locs ls hP hS hl)
theorem go_ldc {g : gp} {i : mI} {pc : Nat} {ll : List (Option Value)} {st : List Value} {u : sg} {Q : Option Value → sg → Prop} {n : Nat} {v : Int32} (hd : decode (mC i) pc = .ok (.ldc n, 2)) (hw : Cond.constant (mO i) n v ∈ TB) (k0 : Go g i (pc + 2) (ll) (.int v :: st) (u) Q) : Go g i (pc) (ll) (st) (u) Q := fun p e s m args below meth c C => gx_ldc C hd hw (k0 p e s m args below meth c C)
theorem gx_ldcw {g : gp} {i : mI} {p : Program} {e : Env} {R : Room} {s : State} {m : MethodId} {args : Array Value} {below : List Frame} {meth : Method} {c : Code} {cells slots : Nat} {Q : State → Prop} {pc : Nat} {ll : List (Option Value)} {st : List Value} {u : sg} {n : Nat} {v : Int32} (C : Cx g i p s m args meth c) (hd : decode (mC i) pc = .ok (.ldc_w n, 3)) (hw : Cond.constant (mO i) n v ∈ TB) (k0 : Gx g i p e R s m args below meth c cells slots Q (pc + 3) (ll) (.int v :: st) (u)) : Gx g i p e R s m args below meth c cells slots Q (pc) (ll) (st) (u) := by
  obtain ⟨hx, hb, hml, hr, hlk, hown, hts, hK, hok, hxt⟩ := C
  intro H locs ls hP hS hl
  exact lv_ldcw hx hb hown (hts _ hw) hd (k0 H locs ls hP hS hl)
theorem go_ldcw {g : gp} {i : mI} {pc : Nat} {ll : List (Option Value)} {st : List Value} {u : sg} {Q : Option Value → sg → Prop} {n : Nat} {v : Int32} (hd : decode (mC i) pc = .ok (.ldc_w n, 3)) (hw : Cond.constant (mO i) n v ∈ TB) (k0 : Go g i (pc + 3) (ll) (.int v :: st) (u) Q) : Go g i (pc) (ll) (st) (u) Q := fun p e s m args below meth c C => gx_ldcw C hd hw (k0 p e s m args below meth c C)
theorem gx_ldc2 {g : gp} {i : mI} {p : Program} {e : Env} {R : Room} {s : State} {m : MethodId} {args : Array Value} {below : List Frame} {meth : Method} {c : Code} {cells slots : Nat} {Q : State → Prop} {pc : Nat} {ll : List (Option Value)} {st : List Value} {u : sg} {n : Nat} {v : Int64} (C : Cx g i p s m args meth c) (hd : decode (mC i) pc = .ok (.ldc2_w n, 3)) (hw : Cond.constantLong (mO i) n v ∈ TB) (k0 : Gx g i p e R s m args below meth c cells slots Q (pc + 3) (ll) (.long v :: st) (u)) : Gx g i p e R s m args below meth c cells slots Q (pc) (ll) (st) (u) := by
  obtain ⟨hx, hb, hml, hr, hlk, hown, hts, hK, hok, hxt⟩ := C
  intro H locs ls hP hS hl
  exact lv_ldc2 hx hb hown (hts _ hw) hd (k0 H locs ls hP hS hl)
theorem go_ldc2 {g : gp} {i : mI} {pc : Nat} {ll : List (Option Value)} {st : List Value} {u : sg} {Q : Option Value → sg → Prop} {n : Nat} {v : Int64} (hd : decode (mC i) pc = .ok (.ldc2_w n, 3)) (hw : Cond.constantLong (mO i) n v ∈ TB) (k0 : Go g i (pc + 3) (ll) (.long v :: st) (u) Q) : Go g i (pc) (ll) (st) (u) Q := fun p e s m args below meth c C => gx_ldc2 C hd hw (k0 p e s m args below meth c C)
theorem gx_iload_n {g : gp} {i : mI} {p : Program} {e : Env} {R : Room} {s : State} {m : MethodId} {args : Array Value} {below : List Frame} {meth : Method} {c : Code} {cells slots : Nat} {Q : State → Prop} {pc : Nat} {ll : List (Option Value)} {st : List Value} {u : sg} {k : Fin 4} {j : Nat} {x : Int32} (C : Cx g i p s m args meth c) (hd : decode (mC i) pc = .ok (.iload_n k, 1)) (hj : (k : Nat) = j) (hi : ll[j]? = some (some (.int x))) (k0 : Gx g i p e R s m args below meth c cells slots Q (pc + 1) (ll) (.int x :: st) (u)) : Gx g i p e R s m args below meth c cells slots Q (pc) (ll) (st) (u) := by
  obtain ⟨hx, hb, hml, hr, hlk, hown, hts, hK, hok, hxt⟩ := C
  intro H locs ls hP hS hl
  exact lv_iload_n hx hb hd hj (lh_at hl hi) (k0 H locs ls hP hS hl)
theorem go_iload_n {g : gp} {i : mI} {pc : Nat} {ll : List (Option Value)} {st : List Value} {u : sg} {Q : Option Value → sg → Prop} {k : Fin 4} {j : Nat} {x : Int32} (hd : decode (mC i) pc = .ok (.iload_n k, 1)) (hj : (k : Nat) = j) (hi : ll[j]? = some (some (.int x))) (k0 : Go g i (pc + 1) (ll) (.int x :: st) (u) Q) : Go g i (pc) (ll) (st) (u) Q := fun p e s m args below meth c C => gx_iload_n C hd hj hi (k0 p e s m args below meth c C)
theorem gx_iload {g : gp} {i : mI} {p : Program} {e : Env} {R : Room} {s : State} {m : MethodId} {args : Array Value} {below : List Frame} {meth : Method} {c : Code} {cells slots : Nat} {Q : State → Prop} {pc : Nat} {ll : List (Option Value)} {st : List Value} {u : sg} {j : Nat} {x : Int32} (C : Cx g i p s m args meth c) (hd : decode (mC i) pc = .ok (.iload j, 2)) (hi : ll[j]? = some (some (.int x))) (k0 : Gx g i p e R s m args below meth c cells slots Q (pc + 2) (ll) (.int x :: st) (u)) : Gx g i p e R s m args below meth c cells slots Q (pc) (ll) (st) (u) := by
  obtain ⟨hx, hb, hml, hr, hlk, hown, hts, hK, hok, hxt⟩ := C
  intro H locs ls hP hS hl
  exact lv_iload hx hb hd (lh_at hl hi) (k0 H locs ls hP hS hl)
theorem go_iload {g : gp} {i : mI} {pc : Nat} {ll : List (Option Value)} {st : List Value} {u : sg} {Q : Option Value → sg → Prop} {j : Nat} {x : Int32} (hd : decode (mC i) pc = .ok (.iload j, 2)) (hi : ll[j]? = some (some (.int x))) (k0 : Go g i (pc + 2) (ll) (.int x :: st) (u) Q) : Go g i (pc) (ll) (st) (u) Q := fun p e s m args below meth c C => gx_iload C hd hi (k0 p e s m args below meth c C)
theorem gx_lload_n {g : gp} {i : mI} {p : Program} {e : Env} {R : Room} {s : State} {m : MethodId} {args : Array Value} {below : List Frame} {meth : Method} {c : Code} {cells slots : Nat} {Q : State → Prop} {pc : Nat} {ll : List (Option Value)} {st : List Value} {u : sg} {k : Fin 4} {j : Nat} {x : Int64} (C : Cx g i p s m args meth c) (hd : decode (mC i) pc = .ok (.lload_n k, 1)) (hj : (k : Nat) = j) (hi : ll[j]? = some (some (.long x))) (k0 : Gx g i p e R s m args below meth c cells slots Q (pc + 1) (ll) (.long x :: st) (u)) : Gx g i p e R s m args below meth c cells slots Q (pc) (ll) (st) (u) := by
  obtain ⟨hx, hb, hml, hr, hlk, hown, hts, hK, hok, hxt⟩ := C
  intro H locs ls hP hS hl
  exact lv_lload_n hx hb hd hj (lh_at hl hi) (k0 H locs ls hP hS hl)
theorem go_lload_n {g : gp} {i : mI} {pc : Nat} {ll : List (Option Value)} {st : List Value} {u : sg} {Q : Option Value → sg → Prop} {k : Fin 4} {j : Nat} {x : Int64} (hd : decode (mC i) pc = .ok (.lload_n k, 1)) (hj : (k : Nat) = j) (hi : ll[j]? = some (some (.long x))) (k0 : Go g i (pc + 1) (ll) (.long x :: st) (u) Q) : Go g i (pc) (ll) (st) (u) Q := fun p e s m args below meth c C => gx_lload_n C hd hj hi (k0 p e s m args below meth c C)
theorem gx_lload {g : gp} {i : mI} {p : Program} {e : Env} {R : Room} {s : State} {m : MethodId} {args : Array Value} {below : List Frame} {meth : Method} {c : Code} {cells slots : Nat} {Q : State → Prop} {pc : Nat} {ll : List (Option Value)} {st : List Value} {u : sg} {j : Nat} {x : Int64} (C : Cx g i p s m args meth c) (hd : decode (mC i) pc = .ok (.lload j, 2)) (hi : ll[j]? = some (some (.long x))) (k0 : Gx g i p e R s m args below meth c cells slots Q (pc + 2) (ll) (.long x :: st) (u)) : Gx g i p e R s m args below meth c cells slots Q (pc) (ll) (st) (u) := by
  obtain ⟨hx, hb, hml, hr, hlk, hown, hts, hK, hok, hxt⟩ := C
  intro H locs ls hP hS hl
  exact lv_lload hx hb hd (lh_at hl hi) (k0 H locs ls hP hS hl)
theorem go_lload {g : gp} {i : mI} {pc : Nat} {ll : List (Option Value)} {st : List Value} {u : sg} {Q : Option Value → sg → Prop} {j : Nat} {x : Int64} (hd : decode (mC i) pc = .ok (.lload j, 2)) (hi : ll[j]? = some (some (.long x))) (k0 : Go g i (pc + 2) (ll) (.long x :: st) (u) Q) : Go g i (pc) (ll) (st) (u) Q := fun p e s m args below meth c C => gx_lload C hd hi (k0 p e s m args below meth c C)
theorem gx_aload_n {g : gp} {i : mI} {p : Program} {e : Env} {R : Room} {s : State} {m : MethodId} {args : Array Value} {below : List Frame} {meth : Method} {c : Code} {cells slots : Nat} {Q : State → Prop} {pc : Nat} {ll : List (Option Value)} {st : List Value} {u : sg} {k : Fin 4} {j : Nat} {x : Nat} (C : Cx g i p s m args meth c) (hd : decode (mC i) pc = .ok (.aload_n k, 1)) (hj : (k : Nat) = j) (hi : ll[j]? = some (some (.ref x))) (k0 : Gx g i p e R s m args below meth c cells slots Q (pc + 1) (ll) (.ref x :: st) (u)) : Gx g i p e R s m args below meth c cells slots Q (pc) (ll) (st) (u) := by
  obtain ⟨hx, hb, hml, hr, hlk, hown, hts, hK, hok, hxt⟩ := C
  intro H locs ls hP hS hl
  exact lv_aload_n hx hb hd hj (lh_at hl hi) (k0 H locs ls hP hS hl)
theorem go_aload_n {g : gp} {i : mI} {pc : Nat} {ll : List (Option Value)} {st : List Value} {u : sg} {Q : Option Value → sg → Prop} {k : Fin 4} {j : Nat} {x : Nat} (hd : decode (mC i) pc = .ok (.aload_n k, 1)) (hj : (k : Nat) = j) (hi : ll[j]? = some (some (.ref x))) (k0 : Go g i (pc + 1) (ll) (.ref x :: st) (u) Q) : Go g i (pc) (ll) (st) (u) Q := fun p e s m args below meth c C => gx_aload_n C hd hj hi (k0 p e s m args below meth c C)
theorem gx_aload {g : gp} {i : mI} {p : Program} {e : Env} {R : Room} {s : State} {m : MethodId} {args : Array Value} {below : List Frame} {meth : Method} {c : Code} {cells slots : Nat} {Q : State → Prop} {pc : Nat} {ll : List (Option Value)} {st : List Value} {u : sg} {j : Nat} {x : Nat} (C : Cx g i p s m args meth c) (hd : decode (mC i) pc = .ok (.aload j, 2)) (hi : ll[j]? = some (some (.ref x))) (k0 : Gx g i p e R s m args below meth c cells slots Q (pc + 2) (ll) (.ref x :: st) (u)) : Gx g i p e R s m args below meth c cells slots Q (pc) (ll) (st) (u) := by
  obtain ⟨hx, hb, hml, hr, hlk, hown, hts, hK, hok, hxt⟩ := C
  intro H locs ls hP hS hl
  exact lv_aload hx hb hd (lh_at hl hi) (k0 H locs ls hP hS hl)
theorem go_aload {g : gp} {i : mI} {pc : Nat} {ll : List (Option Value)} {st : List Value} {u : sg} {Q : Option Value → sg → Prop} {j : Nat} {x : Nat} (hd : decode (mC i) pc = .ok (.aload j, 2)) (hi : ll[j]? = some (some (.ref x))) (k0 : Go g i (pc + 2) (ll) (.ref x :: st) (u) Q) : Go g i (pc) (ll) (st) (u) Q := fun p e s m args below meth c C => gx_aload C hd hi (k0 p e s m args below meth c C)
theorem gx_istore_n {g : gp} {i : mI} {p : Program} {e : Env} {R : Room} {s : State} {m : MethodId} {args : Array Value} {below : List Frame} {meth : Method} {c : Code} {cells slots : Nat} {Q : State → Prop} {pc : Nat} {ll : List (Option Value)} {st : List Value} {u : sg} {k : Fin 4} {j : Nat} {x : Int32} {lm : List (Option Value)} (C : Cx g i p s m args meth c) (hd : decode (mC i) pc = .ok (.istore_n k, 1)) (hj : (k : Nat) = j) (hn : j < mL i) (hk : nl ll j = true) (hm : ll.set j (some (.int x)) = lm) (k0 : Gx g i p e R s m args below meth c cells slots Q (pc + 1) (lm) (st) (u)) : Gx g i p e R s m args below meth c cells slots Q (pc) (ll) (.int x :: st) (u) := by
  obtain ⟨hx, hb, hml, hr, hlk, hown, hts, hK, hok, hxt⟩ := C
  intro H locs ls hP hS hl
  subst hm
  exact lv_istore_n hx hb hd hj hl hn rfl (fun ls1 hl1 => k0 H locs ls1 hP hS (lh_set1 hk hl1))
theorem go_istore_n {g : gp} {i : mI} {pc : Nat} {ll : List (Option Value)} {st : List Value} {u : sg} {Q : Option Value → sg → Prop} {k : Fin 4} {j : Nat} {x : Int32} {lm : List (Option Value)} (hd : decode (mC i) pc = .ok (.istore_n k, 1)) (hj : (k : Nat) = j) (hn : j < mL i) (hk : nl ll j = true) (hm : ll.set j (some (.int x)) = lm) (k0 : Go g i (pc + 1) (lm) (st) (u) Q) : Go g i (pc) (ll) (.int x :: st) (u) Q := fun p e s m args below meth c C => gx_istore_n C hd hj hn hk hm (k0 p e s m args below meth c C)
theorem gx_istore {g : gp} {i : mI} {p : Program} {e : Env} {R : Room} {s : State} {m : MethodId} {args : Array Value} {below : List Frame} {meth : Method} {c : Code} {cells slots : Nat} {Q : State → Prop} {pc : Nat} {ll : List (Option Value)} {st : List Value} {u : sg} {j : Nat} {x : Int32} {lm : List (Option Value)} (C : Cx g i p s m args meth c) (hd : decode (mC i) pc = .ok (.istore j, 2)) (hn : j < mL i) (hk : nl ll j = true) (hm : ll.set j (some (.int x)) = lm) (k0 : Gx g i p e R s m args below meth c cells slots Q (pc + 2) (lm) (st) (u)) : Gx g i p e R s m args below meth c cells slots Q (pc) (ll) (.int x :: st) (u) := by
  obtain ⟨hx, hb, hml, hr, hlk, hown, hts, hK, hok, hxt⟩ := C
  intro H locs ls hP hS hl
  subst hm
  exact lv_istore hx hb hd hl hn rfl (fun ls1 hl1 => k0 H locs ls1 hP hS (lh_set1 hk hl1))
theorem go_istore {g : gp} {i : mI} {pc : Nat} {ll : List (Option Value)} {st : List Value} {u : sg} {Q : Option Value → sg → Prop} {j : Nat} {x : Int32} {lm : List (Option Value)} (hd : decode (mC i) pc = .ok (.istore j, 2)) (hn : j < mL i) (hk : nl ll j = true) (hm : ll.set j (some (.int x)) = lm) (k0 : Go g i (pc + 2) (lm) (st) (u) Q) : Go g i (pc) (ll) (.int x :: st) (u) Q := fun p e s m args below meth c C => gx_istore C hd hn hk hm (k0 p e s m args below meth c C)
theorem gx_astore_n {g : gp} {i : mI} {p : Program} {e : Env} {R : Room} {s : State} {m : MethodId} {args : Array Value} {below : List Frame} {meth : Method} {c : Code} {cells slots : Nat} {Q : State → Prop} {pc : Nat} {ll : List (Option Value)} {st : List Value} {u : sg} {k : Fin 4} {j : Nat} {x : Nat} {lm : List (Option Value)} (C : Cx g i p s m args meth c) (hd : decode (mC i) pc = .ok (.astore_n k, 1)) (hj : (k : Nat) = j) (hn : j < mL i) (hk : nl ll j = true) (hm : ll.set j (some (.ref x)) = lm) (k0 : Gx g i p e R s m args below meth c cells slots Q (pc + 1) (lm) (st) (u)) : Gx g i p e R s m args below meth c cells slots Q (pc) (ll) (.ref x :: st) (u) := by
  obtain ⟨hx, hb, hml, hr, hlk, hown, hts, hK, hok, hxt⟩ := C
  intro H locs ls hP hS hl
  subst hm
  exact lv_astore_n hx hb hd hj hl hn rfl (fun ls1 hl1 => k0 H locs ls1 hP hS (lh_set1 hk hl1))
theorem go_astore_n {g : gp} {i : mI} {pc : Nat} {ll : List (Option Value)} {st : List Value} {u : sg} {Q : Option Value → sg → Prop} {k : Fin 4} {j : Nat} {x : Nat} {lm : List (Option Value)} (hd : decode (mC i) pc = .ok (.astore_n k, 1)) (hj : (k : Nat) = j) (hn : j < mL i) (hk : nl ll j = true) (hm : ll.set j (some (.ref x)) = lm) (k0 : Go g i (pc + 1) (lm) (st) (u) Q) : Go g i (pc) (ll) (.ref x :: st) (u) Q := fun p e s m args below meth c C => gx_astore_n C hd hj hn hk hm (k0 p e s m args below meth c C)
theorem gx_astore {g : gp} {i : mI} {p : Program} {e : Env} {R : Room} {s : State} {m : MethodId} {args : Array Value} {below : List Frame} {meth : Method} {c : Code} {cells slots : Nat} {Q : State → Prop} {pc : Nat} {ll : List (Option Value)} {st : List Value} {u : sg} {j : Nat} {x : Nat} {lm : List (Option Value)} (C : Cx g i p s m args meth c) (hd : decode (mC i) pc = .ok (.astore j, 2)) (hn : j < mL i) (hk : nl ll j = true) (hm : ll.set j (some (.ref x)) = lm) (k0 : Gx g i p e R s m args below meth c cells slots Q (pc + 2) (lm) (st) (u)) : Gx g i p e R s m args below meth c cells slots Q (pc) (ll) (.ref x :: st) (u) := by
  obtain ⟨hx, hb, hml, hr, hlk, hown, hts, hK, hok, hxt⟩ := C
  intro H locs ls hP hS hl
  subst hm
  exact lv_astore hx hb hd hl hn rfl (fun ls1 hl1 => k0 H locs ls1 hP hS (lh_set1 hk hl1))
theorem go_astore {g : gp} {i : mI} {pc : Nat} {ll : List (Option Value)} {st : List Value} {u : sg} {Q : Option Value → sg → Prop} {j : Nat} {x : Nat} {lm : List (Option Value)} (hd : decode (mC i) pc = .ok (.astore j, 2)) (hn : j < mL i) (hk : nl ll j = true) (hm : ll.set j (some (.ref x)) = lm) (k0 : Go g i (pc + 2) (lm) (st) (u) Q) : Go g i (pc) (ll) (.ref x :: st) (u) Q := fun p e s m args below meth c C => gx_astore C hd hn hk hm (k0 p e s m args below meth c C)
theorem gx_lstore_n {g : gp} {i : mI} {p : Program} {e : Env} {R : Room} {s : State} {m : MethodId} {args : Array Value} {below : List Frame} {meth : Method} {c : Code} {cells slots : Nat} {Q : State → Prop} {pc : Nat} {ll : List (Option Value)} {st : List Value} {u : sg} {k : Fin 4} {j : Nat} {x : Int64} {lm : List (Option Value)} (C : Cx g i p s m args meth c) (hd : decode (mC i) pc = .ok (.lstore_n k, 1)) (hj : (k : Nat) = j) (hn : j + 1 < mL i) (hk : nl ll j = true) (hm : (ll.set j (some (.long x))).set (j + 1) none = lm) (k0 : Gx g i p e R s m args below meth c cells slots Q (pc + 1) (lm) (st) (u)) : Gx g i p e R s m args below meth c cells slots Q (pc) (ll) (.long x :: st) (u) := by
  obtain ⟨hx, hb, hml, hr, hlk, hown, hts, hK, hok, hxt⟩ := C
  intro H locs ls hP hS hl
  subst hm
  exact lv_lstore_n hx hb hd hj hl hn rfl (fun ls1 hl1 => k0 H locs ls1 hP hS (lh_set2 hk hl1))
theorem go_lstore_n {g : gp} {i : mI} {pc : Nat} {ll : List (Option Value)} {st : List Value} {u : sg} {Q : Option Value → sg → Prop} {k : Fin 4} {j : Nat} {x : Int64} {lm : List (Option Value)} (hd : decode (mC i) pc = .ok (.lstore_n k, 1)) (hj : (k : Nat) = j) (hn : j + 1 < mL i) (hk : nl ll j = true) (hm : (ll.set j (some (.long x))).set (j + 1) none = lm) (k0 : Go g i (pc + 1) (lm) (st) (u) Q) : Go g i (pc) (ll) (.long x :: st) (u) Q := fun p e s m args below meth c C => gx_lstore_n C hd hj hn hk hm (k0 p e s m args below meth c C)
theorem gx_lstore {g : gp} {i : mI} {p : Program} {e : Env} {R : Room} {s : State} {m : MethodId} {args : Array Value} {below : List Frame} {meth : Method} {c : Code} {cells slots : Nat} {Q : State → Prop} {pc : Nat} {ll : List (Option Value)} {st : List Value} {u : sg} {j : Nat} {x : Int64} {lm : List (Option Value)} (C : Cx g i p s m args meth c) (hd : decode (mC i) pc = .ok (.lstore j, 2)) (hn : j + 1 < mL i) (hk : nl ll j = true) (hm : (ll.set j (some (.long x))).set (j + 1) none = lm) (k0 : Gx g i p e R s m args below meth c cells slots Q (pc + 2) (lm) (st) (u)) : Gx g i p e R s m args below meth c cells slots Q (pc) (ll) (.long x :: st) (u) := by
  obtain ⟨hx, hb, hml, hr, hlk, hown, hts, hK, hok, hxt⟩ := C
  intro H locs ls hP hS hl
  subst hm
  exact lv_lstore hx hb hd hl hn rfl (fun ls1 hl1 => k0 H locs ls1 hP hS (lh_set2 hk hl1))
theorem go_lstore {g : gp} {i : mI} {pc : Nat} {ll : List (Option Value)} {st : List Value} {u : sg} {Q : Option Value → sg → Prop} {j : Nat} {x : Int64} {lm : List (Option Value)} (hd : decode (mC i) pc = .ok (.lstore j, 2)) (hn : j + 1 < mL i) (hk : nl ll j = true) (hm : (ll.set j (some (.long x))).set (j + 1) none = lm) (k0 : Go g i (pc + 2) (lm) (st) (u) Q) : Go g i (pc) (ll) (.long x :: st) (u) Q := fun p e s m args below meth c C => gx_lstore C hd hn hk hm (k0 p e s m args below meth c C)
theorem gx_iinc {g : gp} {i : mI} {p : Program} {e : Env} {R : Room} {s : State} {m : MethodId} {args : Array Value} {below : List Frame} {meth : Method} {c : Code} {cells slots : Nat} {Q : State → Prop} {pc : Nat} {ll : List (Option Value)} {st : List Value} {u : sg} {j : Nat} {n : Int} {x v : Int32} {lm : List (Option Value)} (C : Cx g i p s m args meth c) (hd : decode (mC i) pc = .ok (.iinc j n, 3)) (hi : ll[j]? = some (some (.int x))) (hv : x + Int32.ofInt n = v) (hn : j < mL i) (hk : nl ll j = true) (hm : ll.set j (some (.int v)) = lm) (k0 : Gx g i p e R s m args below meth c cells slots Q (pc + 3) (lm) (st) (u)) : Gx g i p e R s m args below meth c cells slots Q (pc) (ll) (st) (u) := by
  obtain ⟨hx, hb, hml, hr, hlk, hown, hts, hK, hok, hxt⟩ := C
  intro H locs ls hP hS hl
  subst hm
  obtain ⟨k, hk2⟩ := List.mem_iff_getElem?.mp ((prs_mem ll 0 j (.int x)).mpr ⟨j, by omega, hi⟩)
  exact lv_iinc hx hb hd hl hk2 hv hn rfl (fun ls1 hl1 => k0 H locs ls1 hP hS (lh_set1 hk hl1))
theorem go_iinc {g : gp} {i : mI} {pc : Nat} {ll : List (Option Value)} {st : List Value} {u : sg} {Q : Option Value → sg → Prop} {j : Nat} {n : Int} {x v : Int32} {lm : List (Option Value)} (hd : decode (mC i) pc = .ok (.iinc j n, 3)) (hi : ll[j]? = some (some (.int x))) (hv : x + Int32.ofInt n = v) (hn : j < mL i) (hk : nl ll j = true) (hm : ll.set j (some (.int v)) = lm) (k0 : Go g i (pc + 3) (lm) (st) (u) Q) : Go g i (pc) (ll) (st) (u) Q := fun p e s m args below meth c C => gx_iinc C hd hi hv hn hk hm (k0 p e s m args below meth c C)
theorem gx_iadd {g : gp} {i : mI} {p : Program} {e : Env} {R : Room} {s : State} {m : MethodId} {args : Array Value} {below : List Frame} {meth : Method} {c : Code} {cells slots : Nat} {Q : State → Prop} {pc : Nat} {ll : List (Option Value)} {st : List Value} {u : sg} {x y : Int32} (C : Cx g i p s m args meth c) (hd : decode (mC i) pc = .ok (.iadd, 1)) (k0 : Gx g i p e R s m args below meth c cells slots Q (pc + 1) (ll) (.int (x + y) :: st) (u)) : Gx g i p e R s m args below meth c cells slots Q (pc) (ll) (.int y :: .int x :: st) (u) := by
  obtain ⟨hx, hb, hml, hr, hlk, hown, hts, hK, hok, hxt⟩ := C
  intro H locs ls hP hS hl
  exact lv_iadd hx hb hd (k0 H locs ls hP hS hl)
theorem go_iadd {g : gp} {i : mI} {pc : Nat} {ll : List (Option Value)} {st : List Value} {u : sg} {Q : Option Value → sg → Prop} {x y : Int32} (hd : decode (mC i) pc = .ok (.iadd, 1)) (k0 : Go g i (pc + 1) (ll) (.int (x + y) :: st) (u) Q) : Go g i (pc) (ll) (.int y :: .int x :: st) (u) Q := fun p e s m args below meth c C => gx_iadd C hd (k0 p e s m args below meth c C)
theorem gx_isub {g : gp} {i : mI} {p : Program} {e : Env} {R : Room} {s : State} {m : MethodId} {args : Array Value} {below : List Frame} {meth : Method} {c : Code} {cells slots : Nat} {Q : State → Prop} {pc : Nat} {ll : List (Option Value)} {st : List Value} {u : sg} {x y : Int32} (C : Cx g i p s m args meth c) (hd : decode (mC i) pc = .ok (.isub, 1)) (k0 : Gx g i p e R s m args below meth c cells slots Q (pc + 1) (ll) (.int (x - y) :: st) (u)) : Gx g i p e R s m args below meth c cells slots Q (pc) (ll) (.int y :: .int x :: st) (u) := by
  obtain ⟨hx, hb, hml, hr, hlk, hown, hts, hK, hok, hxt⟩ := C
  intro H locs ls hP hS hl
  exact lv_isub hx hb hd (k0 H locs ls hP hS hl)
theorem go_isub {g : gp} {i : mI} {pc : Nat} {ll : List (Option Value)} {st : List Value} {u : sg} {Q : Option Value → sg → Prop} {x y : Int32} (hd : decode (mC i) pc = .ok (.isub, 1)) (k0 : Go g i (pc + 1) (ll) (.int (x - y) :: st) (u) Q) : Go g i (pc) (ll) (.int y :: .int x :: st) (u) Q := fun p e s m args below meth c C => gx_isub C hd (k0 p e s m args below meth c C)
theorem gx_imul {g : gp} {i : mI} {p : Program} {e : Env} {R : Room} {s : State} {m : MethodId} {args : Array Value} {below : List Frame} {meth : Method} {c : Code} {cells slots : Nat} {Q : State → Prop} {pc : Nat} {ll : List (Option Value)} {st : List Value} {u : sg} {x y : Int32} (C : Cx g i p s m args meth c) (hd : decode (mC i) pc = .ok (.imul, 1)) (k0 : Gx g i p e R s m args below meth c cells slots Q (pc + 1) (ll) (.int (x * y) :: st) (u)) : Gx g i p e R s m args below meth c cells slots Q (pc) (ll) (.int y :: .int x :: st) (u) := by
  obtain ⟨hx, hb, hml, hr, hlk, hown, hts, hK, hok, hxt⟩ := C
  intro H locs ls hP hS hl
  exact lv_imul hx hb hd (k0 H locs ls hP hS hl)
theorem go_imul {g : gp} {i : mI} {pc : Nat} {ll : List (Option Value)} {st : List Value} {u : sg} {Q : Option Value → sg → Prop} {x y : Int32} (hd : decode (mC i) pc = .ok (.imul, 1)) (k0 : Go g i (pc + 1) (ll) (.int (x * y) :: st) (u) Q) : Go g i (pc) (ll) (.int y :: .int x :: st) (u) Q := fun p e s m args below meth c C => gx_imul C hd (k0 p e s m args below meth c C)
theorem gx_iand {g : gp} {i : mI} {p : Program} {e : Env} {R : Room} {s : State} {m : MethodId} {args : Array Value} {below : List Frame} {meth : Method} {c : Code} {cells slots : Nat} {Q : State → Prop} {pc : Nat} {ll : List (Option Value)} {st : List Value} {u : sg} {x y : Int32} (C : Cx g i p s m args meth c) (hd : decode (mC i) pc = .ok (.iand, 1)) (k0 : Gx g i p e R s m args below meth c cells slots Q (pc + 1) (ll) (.int (x &&& y) :: st) (u)) : Gx g i p e R s m args below meth c cells slots Q (pc) (ll) (.int y :: .int x :: st) (u) := by
  obtain ⟨hx, hb, hml, hr, hlk, hown, hts, hK, hok, hxt⟩ := C
  intro H locs ls hP hS hl
  exact lv_iand hx hb hd (k0 H locs ls hP hS hl)
theorem go_iand {g : gp} {i : mI} {pc : Nat} {ll : List (Option Value)} {st : List Value} {u : sg} {Q : Option Value → sg → Prop} {x y : Int32} (hd : decode (mC i) pc = .ok (.iand, 1)) (k0 : Go g i (pc + 1) (ll) (.int (x &&& y) :: st) (u) Q) : Go g i (pc) (ll) (.int y :: .int x :: st) (u) Q := fun p e s m args below meth c C => gx_iand C hd (k0 p e s m args below meth c C)
theorem gx_ior {g : gp} {i : mI} {p : Program} {e : Env} {R : Room} {s : State} {m : MethodId} {args : Array Value} {below : List Frame} {meth : Method} {c : Code} {cells slots : Nat} {Q : State → Prop} {pc : Nat} {ll : List (Option Value)} {st : List Value} {u : sg} {x y : Int32} (C : Cx g i p s m args meth c) (hd : decode (mC i) pc = .ok (.ior, 1)) (k0 : Gx g i p e R s m args below meth c cells slots Q (pc + 1) (ll) (.int (x ||| y) :: st) (u)) : Gx g i p e R s m args below meth c cells slots Q (pc) (ll) (.int y :: .int x :: st) (u) := by
  obtain ⟨hx, hb, hml, hr, hlk, hown, hts, hK, hok, hxt⟩ := C
  intro H locs ls hP hS hl
  exact lv_ior hx hb hd (k0 H locs ls hP hS hl)
theorem go_ior {g : gp} {i : mI} {pc : Nat} {ll : List (Option Value)} {st : List Value} {u : sg} {Q : Option Value → sg → Prop} {x y : Int32} (hd : decode (mC i) pc = .ok (.ior, 1)) (k0 : Go g i (pc + 1) (ll) (.int (x ||| y) :: st) (u) Q) : Go g i (pc) (ll) (.int y :: .int x :: st) (u) Q := fun p e s m args below meth c C => gx_ior C hd (k0 p e s m args below meth c C)
theorem gx_ixor {g : gp} {i : mI} {p : Program} {e : Env} {R : Room} {s : State} {m : MethodId} {args : Array Value} {below : List Frame} {meth : Method} {c : Code} {cells slots : Nat} {Q : State → Prop} {pc : Nat} {ll : List (Option Value)} {st : List Value} {u : sg} {x y : Int32} (C : Cx g i p s m args meth c) (hd : decode (mC i) pc = .ok (.ixor, 1)) (k0 : Gx g i p e R s m args below meth c cells slots Q (pc + 1) (ll) (.int (x ^^^ y) :: st) (u)) : Gx g i p e R s m args below meth c cells slots Q (pc) (ll) (.int y :: .int x :: st) (u) := by
  obtain ⟨hx, hb, hml, hr, hlk, hown, hts, hK, hok, hxt⟩ := C
  intro H locs ls hP hS hl
  exact lv_ixor hx hb hd (k0 H locs ls hP hS hl)
theorem go_ixor {g : gp} {i : mI} {pc : Nat} {ll : List (Option Value)} {st : List Value} {u : sg} {Q : Option Value → sg → Prop} {x y : Int32} (hd : decode (mC i) pc = .ok (.ixor, 1)) (k0 : Go g i (pc + 1) (ll) (.int (x ^^^ y) :: st) (u) Q) : Go g i (pc) (ll) (.int y :: .int x :: st) (u) Q := fun p e s m args below meth c C => gx_ixor C hd (k0 p e s m args below meth c C)
theorem gx_ishl {g : gp} {i : mI} {p : Program} {e : Env} {R : Room} {s : State} {m : MethodId} {args : Array Value} {below : List Frame} {meth : Method} {c : Code} {cells slots : Nat} {Q : State → Prop} {pc : Nat} {ll : List (Option Value)} {st : List Value} {u : sg} {x y : Int32} (C : Cx g i p s m args meth c) (hd : decode (mC i) pc = .ok (.ishl, 1)) (k0 : Gx g i p e R s m args below meth c cells slots Q (pc + 1) (ll) (.int (x <<< (y &&& 31)) :: st) (u)) : Gx g i p e R s m args below meth c cells slots Q (pc) (ll) (.int y :: .int x :: st) (u) := by
  obtain ⟨hx, hb, hml, hr, hlk, hown, hts, hK, hok, hxt⟩ := C
  intro H locs ls hP hS hl
  exact lv_ishl hx hb hd (k0 H locs ls hP hS hl)
theorem go_ishl {g : gp} {i : mI} {pc : Nat} {ll : List (Option Value)} {st : List Value} {u : sg} {Q : Option Value → sg → Prop} {x y : Int32} (hd : decode (mC i) pc = .ok (.ishl, 1)) (k0 : Go g i (pc + 1) (ll) (.int (x <<< (y &&& 31)) :: st) (u) Q) : Go g i (pc) (ll) (.int y :: .int x :: st) (u) Q := fun p e s m args below meth c C => gx_ishl C hd (k0 p e s m args below meth c C)
theorem gx_ishr {g : gp} {i : mI} {p : Program} {e : Env} {R : Room} {s : State} {m : MethodId} {args : Array Value} {below : List Frame} {meth : Method} {c : Code} {cells slots : Nat} {Q : State → Prop} {pc : Nat} {ll : List (Option Value)} {st : List Value} {u : sg} {x y : Int32} (C : Cx g i p s m args meth c) (hd : decode (mC i) pc = .ok (.ishr, 1)) (k0 : Gx g i p e R s m args below meth c cells slots Q (pc + 1) (ll) (.int (x >>> (y &&& 31)) :: st) (u)) : Gx g i p e R s m args below meth c cells slots Q (pc) (ll) (.int y :: .int x :: st) (u) := by
  obtain ⟨hx, hb, hml, hr, hlk, hown, hts, hK, hok, hxt⟩ := C
  intro H locs ls hP hS hl
  exact lv_ishr hx hb hd (k0 H locs ls hP hS hl)
theorem go_ishr {g : gp} {i : mI} {pc : Nat} {ll : List (Option Value)} {st : List Value} {u : sg} {Q : Option Value → sg → Prop} {x y : Int32} (hd : decode (mC i) pc = .ok (.ishr, 1)) (k0 : Go g i (pc + 1) (ll) (.int (x >>> (y &&& 31)) :: st) (u) Q) : Go g i (pc) (ll) (.int y :: .int x :: st) (u) Q := fun p e s m args below meth c C => gx_ishr C hd (k0 p e s m args below meth c C)
theorem gx_ladd {g : gp} {i : mI} {p : Program} {e : Env} {R : Room} {s : State} {m : MethodId} {args : Array Value} {below : List Frame} {meth : Method} {c : Code} {cells slots : Nat} {Q : State → Prop} {pc : Nat} {ll : List (Option Value)} {st : List Value} {u : sg} {x y : Int64} (C : Cx g i p s m args meth c) (hd : decode (mC i) pc = .ok (.ladd, 1)) (k0 : Gx g i p e R s m args below meth c cells slots Q (pc + 1) (ll) (.long (x + y) :: st) (u)) : Gx g i p e R s m args below meth c cells slots Q (pc) (ll) (.long y :: .long x :: st) (u) := by
  obtain ⟨hx, hb, hml, hr, hlk, hown, hts, hK, hok, hxt⟩ := C
  intro H locs ls hP hS hl
  exact lv_ladd hx hb hd (k0 H locs ls hP hS hl)
theorem go_ladd {g : gp} {i : mI} {pc : Nat} {ll : List (Option Value)} {st : List Value} {u : sg} {Q : Option Value → sg → Prop} {x y : Int64} (hd : decode (mC i) pc = .ok (.ladd, 1)) (k0 : Go g i (pc + 1) (ll) (.long (x + y) :: st) (u) Q) : Go g i (pc) (ll) (.long y :: .long x :: st) (u) Q := fun p e s m args below meth c C => gx_ladd C hd (k0 p e s m args below meth c C)
theorem gx_land {g : gp} {i : mI} {p : Program} {e : Env} {R : Room} {s : State} {m : MethodId} {args : Array Value} {below : List Frame} {meth : Method} {c : Code} {cells slots : Nat} {Q : State → Prop} {pc : Nat} {ll : List (Option Value)} {st : List Value} {u : sg} {x y : Int64} (C : Cx g i p s m args meth c) (hd : decode (mC i) pc = .ok (.land, 1)) (k0 : Gx g i p e R s m args below meth c cells slots Q (pc + 1) (ll) (.long (x &&& y) :: st) (u)) : Gx g i p e R s m args below meth c cells slots Q (pc) (ll) (.long y :: .long x :: st) (u) := by
  obtain ⟨hx, hb, hml, hr, hlk, hown, hts, hK, hok, hxt⟩ := C
  intro H locs ls hP hS hl
  exact lv_land hx hb hd (k0 H locs ls hP hS hl)
theorem go_land {g : gp} {i : mI} {pc : Nat} {ll : List (Option Value)} {st : List Value} {u : sg} {Q : Option Value → sg → Prop} {x y : Int64} (hd : decode (mC i) pc = .ok (.land, 1)) (k0 : Go g i (pc + 1) (ll) (.long (x &&& y) :: st) (u) Q) : Go g i (pc) (ll) (.long y :: .long x :: st) (u) Q := fun p e s m args below meth c C => gx_land C hd (k0 p e s m args below meth c C)
theorem gx_lor {g : gp} {i : mI} {p : Program} {e : Env} {R : Room} {s : State} {m : MethodId} {args : Array Value} {below : List Frame} {meth : Method} {c : Code} {cells slots : Nat} {Q : State → Prop} {pc : Nat} {ll : List (Option Value)} {st : List Value} {u : sg} {x y : Int64} (C : Cx g i p s m args meth c) (hd : decode (mC i) pc = .ok (.lor, 1)) (k0 : Gx g i p e R s m args below meth c cells slots Q (pc + 1) (ll) (.long (x ||| y) :: st) (u)) : Gx g i p e R s m args below meth c cells slots Q (pc) (ll) (.long y :: .long x :: st) (u) := by
  obtain ⟨hx, hb, hml, hr, hlk, hown, hts, hK, hok, hxt⟩ := C
  intro H locs ls hP hS hl
  exact lv_lor hx hb hd (k0 H locs ls hP hS hl)
theorem go_lor {g : gp} {i : mI} {pc : Nat} {ll : List (Option Value)} {st : List Value} {u : sg} {Q : Option Value → sg → Prop} {x y : Int64} (hd : decode (mC i) pc = .ok (.lor, 1)) (k0 : Go g i (pc + 1) (ll) (.long (x ||| y) :: st) (u) Q) : Go g i (pc) (ll) (.long y :: .long x :: st) (u) Q := fun p e s m args below meth c C => gx_lor C hd (k0 p e s m args below meth c C)
theorem gx_ineg {g : gp} {i : mI} {p : Program} {e : Env} {R : Room} {s : State} {m : MethodId} {args : Array Value} {below : List Frame} {meth : Method} {c : Code} {cells slots : Nat} {Q : State → Prop} {pc : Nat} {ll : List (Option Value)} {st : List Value} {u : sg} {x : Int32} (C : Cx g i p s m args meth c) (hd : decode (mC i) pc = .ok (.ineg, 1)) (k0 : Gx g i p e R s m args below meth c cells slots Q (pc + 1) (ll) (.int (-x) :: st) (u)) : Gx g i p e R s m args below meth c cells slots Q (pc) (ll) (.int x :: st) (u) := by
  obtain ⟨hx, hb, hml, hr, hlk, hown, hts, hK, hok, hxt⟩ := C
  intro H locs ls hP hS hl
  exact lv_ineg hx hb hd (k0 H locs ls hP hS hl)
theorem go_ineg {g : gp} {i : mI} {pc : Nat} {ll : List (Option Value)} {st : List Value} {u : sg} {Q : Option Value → sg → Prop} {x : Int32} (hd : decode (mC i) pc = .ok (.ineg, 1)) (k0 : Go g i (pc + 1) (ll) (.int (-x) :: st) (u) Q) : Go g i (pc) (ll) (.int x :: st) (u) Q := fun p e s m args below meth c C => gx_ineg C hd (k0 p e s m args below meth c C)
theorem gx_iushr {g : gp} {i : mI} {p : Program} {e : Env} {R : Room} {s : State} {m : MethodId} {args : Array Value} {below : List Frame} {meth : Method} {c : Code} {cells slots : Nat} {Q : State → Prop} {pc : Nat} {ll : List (Option Value)} {st : List Value} {u : sg} {x y : Int32} (C : Cx g i p s m args meth c) (hd : decode (mC i) pc = .ok (.iushr, 1)) (k0 : Gx g i p e R s m args below meth c cells slots Q (pc + 1) (ll) (.int ((x.toUInt32 >>> (y.toUInt32 &&& Int32.toUInt32 31)).toInt32) :: st) (u)) : Gx g i p e R s m args below meth c cells slots Q (pc) (ll) (.int y :: .int x :: st) (u) := by
  obtain ⟨hx, hb, hml, hr, hlk, hown, hts, hK, hok, hxt⟩ := C
  intro H locs ls hP hS hl
  exact lv_iushr hx hb hd rfl (k0 H locs ls hP hS hl)
theorem go_iushr {g : gp} {i : mI} {pc : Nat} {ll : List (Option Value)} {st : List Value} {u : sg} {Q : Option Value → sg → Prop} {x y : Int32} (hd : decode (mC i) pc = .ok (.iushr, 1)) (k0 : Go g i (pc + 1) (ll) (.int ((x.toUInt32 >>> (y.toUInt32 &&& Int32.toUInt32 31)).toInt32) :: st) (u) Q) : Go g i (pc) (ll) (.int y :: .int x :: st) (u) Q := fun p e s m args below meth c C => gx_iushr C hd (k0 p e s m args below meth c C)
theorem gx_lushr {g : gp} {i : mI} {p : Program} {e : Env} {R : Room} {s : State} {m : MethodId} {args : Array Value} {below : List Frame} {meth : Method} {c : Code} {cells slots : Nat} {Q : State → Prop} {pc : Nat} {ll : List (Option Value)} {st : List Value} {u : sg} {x : Int64} {y : Int32} (C : Cx g i p s m args meth c) (hd : decode (mC i) pc = .ok (.lushr, 1)) (k0 : Gx g i p e R s m args below meth c cells slots Q (pc + 1) (ll) (.long ((x.toUInt64 >>> (y.toInt64.toUInt64 &&& Int64.toUInt64 63)).toInt64) :: st) (u)) : Gx g i p e R s m args below meth c cells slots Q (pc) (ll) (.int y :: .long x :: st) (u) := by
  obtain ⟨hx, hb, hml, hr, hlk, hown, hts, hK, hok, hxt⟩ := C
  intro H locs ls hP hS hl
  exact lv_lushr hx hb hd rfl (k0 H locs ls hP hS hl)
theorem go_lushr {g : gp} {i : mI} {pc : Nat} {ll : List (Option Value)} {st : List Value} {u : sg} {Q : Option Value → sg → Prop} {x : Int64} {y : Int32} (hd : decode (mC i) pc = .ok (.lushr, 1)) (k0 : Go g i (pc + 1) (ll) (.long ((x.toUInt64 >>> (y.toInt64.toUInt64 &&& Int64.toUInt64 63)).toInt64) :: st) (u) Q) : Go g i (pc) (ll) (.int y :: .long x :: st) (u) Q := fun p e s m args below meth c C => gx_lushr C hd (k0 p e s m args below meth c C)
theorem gx_lshl {g : gp} {i : mI} {p : Program} {e : Env} {R : Room} {s : State} {m : MethodId} {args : Array Value} {below : List Frame} {meth : Method} {c : Code} {cells slots : Nat} {Q : State → Prop} {pc : Nat} {ll : List (Option Value)} {st : List Value} {u : sg} {x : Int64} {y : Int32} (C : Cx g i p s m args meth c) (hd : decode (mC i) pc = .ok (.lshl, 1)) (k0 : Gx g i p e R s m args below meth c cells slots Q (pc + 1) (ll) (.long (x <<< (y.toInt64 &&& 63)) :: st) (u)) : Gx g i p e R s m args below meth c cells slots Q (pc) (ll) (.int y :: .long x :: st) (u) := by
  obtain ⟨hx, hb, hml, hr, hlk, hown, hts, hK, hok, hxt⟩ := C
  intro H locs ls hP hS hl
  exact lv_lshl hx hb hd rfl (k0 H locs ls hP hS hl)
theorem go_lshl {g : gp} {i : mI} {pc : Nat} {ll : List (Option Value)} {st : List Value} {u : sg} {Q : Option Value → sg → Prop} {x : Int64} {y : Int32} (hd : decode (mC i) pc = .ok (.lshl, 1)) (k0 : Go g i (pc + 1) (ll) (.long (x <<< (y.toInt64 &&& 63)) :: st) (u) Q) : Go g i (pc) (ll) (.int y :: .long x :: st) (u) Q := fun p e s m args below meth c C => gx_lshl C hd (k0 p e s m args below meth c C)
theorem gx_lshr {g : gp} {i : mI} {p : Program} {e : Env} {R : Room} {s : State} {m : MethodId} {args : Array Value} {below : List Frame} {meth : Method} {c : Code} {cells slots : Nat} {Q : State → Prop} {pc : Nat} {ll : List (Option Value)} {st : List Value} {u : sg} {x : Int64} {y : Int32} (C : Cx g i p s m args meth c) (hd : decode (mC i) pc = .ok (.lshr, 1)) (k0 : Gx g i p e R s m args below meth c cells slots Q (pc + 1) (ll) (.long (x >>> (y.toInt64 &&& 63)) :: st) (u)) : Gx g i p e R s m args below meth c cells slots Q (pc) (ll) (.int y :: .long x :: st) (u) := by
  obtain ⟨hx, hb, hml, hr, hlk, hown, hts, hK, hok, hxt⟩ := C
  intro H locs ls hP hS hl
  exact lv_lshr hx hb hd rfl (k0 H locs ls hP hS hl)
theorem go_lshr {g : gp} {i : mI} {pc : Nat} {ll : List (Option Value)} {st : List Value} {u : sg} {Q : Option Value → sg → Prop} {x : Int64} {y : Int32} (hd : decode (mC i) pc = .ok (.lshr, 1)) (k0 : Go g i (pc + 1) (ll) (.long (x >>> (y.toInt64 &&& 63)) :: st) (u) Q) : Go g i (pc) (ll) (.int y :: .long x :: st) (u) Q := fun p e s m args below meth c C => gx_lshr C hd (k0 p e s m args below meth c C)
theorem gx_lcmp {g : gp} {i : mI} {p : Program} {e : Env} {R : Room} {s : State} {m : MethodId} {args : Array Value} {below : List Frame} {meth : Method} {c : Code} {cells slots : Nat} {Q : State → Prop} {pc : Nat} {ll : List (Option Value)} {st : List Value} {u : sg} {x y : Int64} (C : Cx g i p s m args meth c) (hd : decode (mC i) pc = .ok (.lcmp, 1)) (k0 : Gx g i p e R s m args below meth c cells slots Q (pc + 1) (ll) (.int (lg_cmp x y) :: st) (u)) : Gx g i p e R s m args below meth c cells slots Q (pc) (ll) (.long y :: .long x :: st) (u) := by
  obtain ⟨hx, hb, hml, hr, hlk, hown, hts, hK, hok, hxt⟩ := C
  intro H locs ls hP hS hl
  exact W.lcmp hx hb hd (k0 H locs ls hP hS hl)
theorem go_lcmp {g : gp} {i : mI} {pc : Nat} {ll : List (Option Value)} {st : List Value} {u : sg} {Q : Option Value → sg → Prop} {x y : Int64} (hd : decode (mC i) pc = .ok (.lcmp, 1)) (k0 : Go g i (pc + 1) (ll) (.int (lg_cmp x y) :: st) (u) Q) : Go g i (pc) (ll) (.long y :: .long x :: st) (u) Q := fun p e s m args below meth c C => gx_lcmp C hd (k0 p e s m args below meth c C)
theorem gx_i2l {g : gp} {i : mI} {p : Program} {e : Env} {R : Room} {s : State} {m : MethodId} {args : Array Value} {below : List Frame} {meth : Method} {c : Code} {cells slots : Nat} {Q : State → Prop} {pc : Nat} {ll : List (Option Value)} {st : List Value} {u : sg} {x : Int32} (C : Cx g i p s m args meth c) (hd : decode (mC i) pc = .ok (.i2l, 1)) (k0 : Gx g i p e R s m args below meth c cells slots Q (pc + 1) (ll) (.long x.toInt64 :: st) (u)) : Gx g i p e R s m args below meth c cells slots Q (pc) (ll) (.int x :: st) (u) := by
  obtain ⟨hx, hb, hml, hr, hlk, hown, hts, hK, hok, hxt⟩ := C
  intro H locs ls hP hS hl
  exact lv_i2l hx hb hd rfl (k0 H locs ls hP hS hl)
theorem go_i2l {g : gp} {i : mI} {pc : Nat} {ll : List (Option Value)} {st : List Value} {u : sg} {Q : Option Value → sg → Prop} {x : Int32} (hd : decode (mC i) pc = .ok (.i2l, 1)) (k0 : Go g i (pc + 1) (ll) (.long x.toInt64 :: st) (u) Q) : Go g i (pc) (ll) (.int x :: st) (u) Q := fun p e s m args below meth c C => gx_i2l C hd (k0 p e s m args below meth c C)
theorem gx_l2i {g : gp} {i : mI} {p : Program} {e : Env} {R : Room} {s : State} {m : MethodId} {args : Array Value} {below : List Frame} {meth : Method} {c : Code} {cells slots : Nat} {Q : State → Prop} {pc : Nat} {ll : List (Option Value)} {st : List Value} {u : sg} {x : Int64} (C : Cx g i p s m args meth c) (hd : decode (mC i) pc = .ok (.l2i, 1)) (k0 : Gx g i p e R s m args below meth c cells slots Q (pc + 1) (ll) (.int x.toInt32 :: st) (u)) : Gx g i p e R s m args below meth c cells slots Q (pc) (ll) (.long x :: st) (u) := by
  obtain ⟨hx, hb, hml, hr, hlk, hown, hts, hK, hok, hxt⟩ := C
  intro H locs ls hP hS hl
  exact lv_l2i hx hb hd rfl (k0 H locs ls hP hS hl)
theorem go_l2i {g : gp} {i : mI} {pc : Nat} {ll : List (Option Value)} {st : List Value} {u : sg} {Q : Option Value → sg → Prop} {x : Int64} (hd : decode (mC i) pc = .ok (.l2i, 1)) (k0 : Go g i (pc + 1) (ll) (.int x.toInt32 :: st) (u) Q) : Go g i (pc) (ll) (.long x :: st) (u) Q := fun p e s m args below meth c C => gx_l2i C hd (k0 p e s m args below meth c C)
theorem gx_i2b {g : gp} {i : mI} {p : Program} {e : Env} {R : Room} {s : State} {m : MethodId} {args : Array Value} {below : List Frame} {meth : Method} {c : Code} {cells slots : Nat} {Q : State → Prop} {pc : Nat} {ll : List (Option Value)} {st : List Value} {u : sg} {x : Int32} (C : Cx g i p s m args meth c) (hd : decode (mC i) pc = .ok (.i2b, 1)) (k0 : Gx g i p e R s m args below meth c cells slots Q (pc + 1) (ll) (.int x.toInt8.toInt32 :: st) (u)) : Gx g i p e R s m args below meth c cells slots Q (pc) (ll) (.int x :: st) (u) := by
  obtain ⟨hx, hb, hml, hr, hlk, hown, hts, hK, hok, hxt⟩ := C
  intro H locs ls hP hS hl
  exact lv_i2b hx hb hd rfl (k0 H locs ls hP hS hl)
theorem go_i2b {g : gp} {i : mI} {pc : Nat} {ll : List (Option Value)} {st : List Value} {u : sg} {Q : Option Value → sg → Prop} {x : Int32} (hd : decode (mC i) pc = .ok (.i2b, 1)) (k0 : Go g i (pc + 1) (ll) (.int x.toInt8.toInt32 :: st) (u) Q) : Go g i (pc) (ll) (.int x :: st) (u) Q := fun p e s m args below meth c C => gx_i2b C hd (k0 p e s m args below meth c C)
theorem gx_i2s {g : gp} {i : mI} {p : Program} {e : Env} {R : Room} {s : State} {m : MethodId} {args : Array Value} {below : List Frame} {meth : Method} {c : Code} {cells slots : Nat} {Q : State → Prop} {pc : Nat} {ll : List (Option Value)} {st : List Value} {u : sg} {x : Int32} (C : Cx g i p s m args meth c) (hd : decode (mC i) pc = .ok (.i2s, 1)) (k0 : Gx g i p e R s m args below meth c cells slots Q (pc + 1) (ll) (.int x.toInt16.toInt32 :: st) (u)) : Gx g i p e R s m args below meth c cells slots Q (pc) (ll) (.int x :: st) (u) := by
  obtain ⟨hx, hb, hml, hr, hlk, hown, hts, hK, hok, hxt⟩ := C
  intro H locs ls hP hS hl
  exact lv_i2s hx hb hd rfl (k0 H locs ls hP hS hl)
theorem go_i2s {g : gp} {i : mI} {pc : Nat} {ll : List (Option Value)} {st : List Value} {u : sg} {Q : Option Value → sg → Prop} {x : Int32} (hd : decode (mC i) pc = .ok (.i2s, 1)) (k0 : Go g i (pc + 1) (ll) (.int x.toInt16.toInt32 :: st) (u) Q) : Go g i (pc) (ll) (.int x :: st) (u) Q := fun p e s m args below meth c C => gx_i2s C hd (k0 p e s m args below meth c C)
theorem gx_i2c {g : gp} {i : mI} {p : Program} {e : Env} {R : Room} {s : State} {m : MethodId} {args : Array Value} {below : List Frame} {meth : Method} {c : Code} {cells slots : Nat} {Q : State → Prop} {pc : Nat} {ll : List (Option Value)} {st : List Value} {u : sg} {x : Int32} (C : Cx g i p s m args meth c) (hd : decode (mC i) pc = .ok (.i2c, 1)) (k0 : Gx g i p e R s m args below meth c cells slots Q (pc + 1) (ll) (.int (x.toUInt32 % 65536).toInt32 :: st) (u)) : Gx g i p e R s m args below meth c cells slots Q (pc) (ll) (.int x :: st) (u) := by
  obtain ⟨hx, hb, hml, hr, hlk, hown, hts, hK, hok, hxt⟩ := C
  intro H locs ls hP hS hl
  exact lv_i2c hx hb hd rfl (k0 H locs ls hP hS hl)
theorem go_i2c {g : gp} {i : mI} {pc : Nat} {ll : List (Option Value)} {st : List Value} {u : sg} {Q : Option Value → sg → Prop} {x : Int32} (hd : decode (mC i) pc = .ok (.i2c, 1)) (k0 : Go g i (pc + 1) (ll) (.int (x.toUInt32 % 65536).toInt32 :: st) (u) Q) : Go g i (pc) (ll) (.int x :: st) (u) Q := fun p e s m args below meth c C => gx_i2c C hd (k0 p e s m args below meth c C)
theorem gx_idiv {g : gp} {i : mI} {p : Program} {e : Env} {R : Room} {s : State} {m : MethodId} {args : Array Value} {below : List Frame} {meth : Method} {c : Code} {cells slots : Nat} {Q : State → Prop} {pc : Nat} {ll : List (Option Value)} {st : List Value} {u : sg} {x y : Int32} (C : Cx g i p s m args meth c) (hd : decode (mC i) pc = .ok (.idiv, 1)) (hy : ¬ y = 0) (k0 : Gx g i p e R s m args below meth c cells slots Q (pc + 1) (ll) (.int (x / y) :: st) (u)) : Gx g i p e R s m args below meth c cells slots Q (pc) (ll) (.int y :: .int x :: st) (u) := by
  obtain ⟨hx, hb, hml, hr, hlk, hown, hts, hK, hok, hxt⟩ := C
  intro H locs ls hP hS hl
  exact lv_idiv hx hb hd hy (k0 H locs ls hP hS hl)
theorem go_idiv {g : gp} {i : mI} {pc : Nat} {ll : List (Option Value)} {st : List Value} {u : sg} {Q : Option Value → sg → Prop} {x y : Int32} (hd : decode (mC i) pc = .ok (.idiv, 1)) (hy : ¬ y = 0) (k0 : Go g i (pc + 1) (ll) (.int (x / y) :: st) (u) Q) : Go g i (pc) (ll) (.int y :: .int x :: st) (u) Q := fun p e s m args below meth c C => gx_idiv C hd hy (k0 p e s m args below meth c C)
theorem gx_irem {g : gp} {i : mI} {p : Program} {e : Env} {R : Room} {s : State} {m : MethodId} {args : Array Value} {below : List Frame} {meth : Method} {c : Code} {cells slots : Nat} {Q : State → Prop} {pc : Nat} {ll : List (Option Value)} {st : List Value} {u : sg} {x y : Int32} (C : Cx g i p s m args meth c) (hd : decode (mC i) pc = .ok (.irem, 1)) (hy : ¬ y = 0) (k0 : Gx g i p e R s m args below meth c cells slots Q (pc + 1) (ll) (.int (x - x / y * y) :: st) (u)) : Gx g i p e R s m args below meth c cells slots Q (pc) (ll) (.int y :: .int x :: st) (u) := by
  obtain ⟨hx, hb, hml, hr, hlk, hown, hts, hK, hok, hxt⟩ := C
  intro H locs ls hP hS hl
  exact lv_irem hx hb hd hy (k0 H locs ls hP hS hl)
theorem go_irem {g : gp} {i : mI} {pc : Nat} {ll : List (Option Value)} {st : List Value} {u : sg} {Q : Option Value → sg → Prop} {x y : Int32} (hd : decode (mC i) pc = .ok (.irem, 1)) (hy : ¬ y = 0) (k0 : Go g i (pc + 1) (ll) (.int (x - x / y * y) :: st) (u) Q) : Go g i (pc) (ll) (.int y :: .int x :: st) (u) Q := fun p e s m args below meth c C => gx_irem C hd hy (k0 p e s m args below meth c C)
theorem gx_dup {g : gp} {i : mI} {p : Program} {e : Env} {R : Room} {s : State} {m : MethodId} {args : Array Value} {below : List Frame} {meth : Method} {c : Code} {cells slots : Nat} {Q : State → Prop} {pc : Nat} {ll : List (Option Value)} {st : List Value} {u : sg} {v : Value} (C : Cx g i p s m args meth c) (hd : decode (mC i) pc = .ok (.dup, 1)) (hv : v.category = 1) (k0 : Gx g i p e R s m args below meth c cells slots Q (pc + 1) (ll) (v :: v :: st) (u)) : Gx g i p e R s m args below meth c cells slots Q (pc) (ll) (v :: st) (u) := by
  obtain ⟨hx, hb, hml, hr, hlk, hown, hts, hK, hok, hxt⟩ := C
  intro H locs ls hP hS hl
  exact lv_dup hx hb hd hv (k0 H locs ls hP hS hl)
theorem go_dup {g : gp} {i : mI} {pc : Nat} {ll : List (Option Value)} {st : List Value} {u : sg} {Q : Option Value → sg → Prop} {v : Value} (hd : decode (mC i) pc = .ok (.dup, 1)) (hv : v.category = 1) (k0 : Go g i (pc + 1) (ll) (v :: v :: st) (u) Q) : Go g i (pc) (ll) (v :: st) (u) Q := fun p e s m args below meth c C => gx_dup C hd hv (k0 p e s m args below meth c C)
theorem gx_dup2 {g : gp} {i : mI} {p : Program} {e : Env} {R : Room} {s : State} {m : MethodId} {args : Array Value} {below : List Frame} {meth : Method} {c : Code} {cells slots : Nat} {Q : State → Prop} {pc : Nat} {ll : List (Option Value)} {st : List Value} {u : sg} {v w : Value} (C : Cx g i p s m args meth c) (hd : decode (mC i) pc = .ok (.dup2, 1)) (hv : v.category = 1) (hw : w.category = 1) (k0 : Gx g i p e R s m args below meth c cells slots Q (pc + 1) (ll) (v :: w :: v :: w :: st) (u)) : Gx g i p e R s m args below meth c cells slots Q (pc) (ll) (v :: w :: st) (u) := by
  obtain ⟨hx, hb, hml, hr, hlk, hown, hts, hK, hok, hxt⟩ := C
  intro H locs ls hP hS hl
  exact lv_dup2_11 hx hb hd hv hw (k0 H locs ls hP hS hl)
theorem go_dup2 {g : gp} {i : mI} {pc : Nat} {ll : List (Option Value)} {st : List Value} {u : sg} {Q : Option Value → sg → Prop} {v w : Value} (hd : decode (mC i) pc = .ok (.dup2, 1)) (hv : v.category = 1) (hw : w.category = 1) (k0 : Go g i (pc + 1) (ll) (v :: w :: v :: w :: st) (u) Q) : Go g i (pc) (ll) (v :: w :: st) (u) Q := fun p e s m args below meth c C => gx_dup2 C hd hv hw (k0 p e s m args below meth c C)
theorem gx_pop {g : gp} {i : mI} {p : Program} {e : Env} {R : Room} {s : State} {m : MethodId} {args : Array Value} {below : List Frame} {meth : Method} {c : Code} {cells slots : Nat} {Q : State → Prop} {pc : Nat} {ll : List (Option Value)} {st : List Value} {u : sg} {v : Value} (C : Cx g i p s m args meth c) (hd : decode (mC i) pc = .ok (.pop, 1)) (hv : v.category = 1) (k0 : Gx g i p e R s m args below meth c cells slots Q (pc + 1) (ll) (st) (u)) : Gx g i p e R s m args below meth c cells slots Q (pc) (ll) (v :: st) (u) := by
  obtain ⟨hx, hb, hml, hr, hlk, hown, hts, hK, hok, hxt⟩ := C
  intro H locs ls hP hS hl
  exact lv_pop hx hb hd hv (k0 H locs ls hP hS hl)
theorem go_pop {g : gp} {i : mI} {pc : Nat} {ll : List (Option Value)} {st : List Value} {u : sg} {Q : Option Value → sg → Prop} {v : Value} (hd : decode (mC i) pc = .ok (.pop, 1)) (hv : v.category = 1) (k0 : Go g i (pc + 1) (ll) (st) (u) Q) : Go g i (pc) (ll) (v :: st) (u) Q := fun p e s m args below meth c C => gx_pop C hd hv (k0 p e s m args below meth c C)
theorem gx_goto {g : gp} {i : mI} {p : Program} {e : Env} {R : Room} {s : State} {m : MethodId} {args : Array Value} {below : List Frame} {meth : Method} {c : Code} {cells slots : Nat} {Q : State → Prop} {pc : Nat} {ll : List (Option Value)} {st : List Value} {u : sg} {off : Int} {tgt : Nat} (C : Cx g i p s m args meth c) (hd : decode (mC i) pc = .ok (.goto off, 3)) (ht : (pc : Int) + off = (tgt : Int)) (k0 : Gx g i p e R s m args below meth c cells slots Q (tgt) (ll) (st) (u)) : Gx g i p e R s m args below meth c cells slots Q (pc) (ll) (st) (u) := by
  obtain ⟨hx, hb, hml, hr, hlk, hown, hts, hK, hok, hxt⟩ := C
  intro H locs ls hP hS hl
  exact lv_goto hx hb hd ht (k0 H locs ls hP hS hl)
theorem go_goto {g : gp} {i : mI} {pc : Nat} {ll : List (Option Value)} {st : List Value} {u : sg} {Q : Option Value → sg → Prop} {off : Int} {tgt : Nat} (hd : decode (mC i) pc = .ok (.goto off, 3)) (ht : (pc : Int) + off = (tgt : Int)) (k0 : Go g i (tgt) (ll) (st) (u) Q) : Go g i (pc) (ll) (st) (u) Q := fun p e s m args below meth c C => gx_goto C hd ht (k0 p e s m args below meth c C)
theorem gx_if_eq {g : gp} {i : mI} {p : Program} {e : Env} {R : Room} {s : State} {m : MethodId} {args : Array Value} {below : List Frame} {meth : Method} {c : Code} {cells slots : Nat} {Q : State → Prop} {pc : Nat} {ll : List (Option Value)} {st : List Value} {u : sg} {x : Int32} {off : Int} {tgt : Nat} (C : Cx g i p s m args meth c) (hd : decode (mC i) pc = .ok (.ifCond .eq off, 3)) (ht : (pc : Int) + off = (tgt : Int)) (k0 : x = 0 → Gx g i p e R s m args below meth c cells slots Q (tgt) (ll) (st) (u)) (k1 : ¬ x = 0 → Gx g i p e R s m args below meth c cells slots Q (pc + 3) (ll) (st) (u)) : Gx g i p e R s m args below meth c cells slots Q (pc) (ll) (.int x :: st) (u) := by
  obtain ⟨hx, hb, hml, hr, hlk, hown, hts, hK, hok, hxt⟩ := C
  intro H locs ls hP hS hl
  exact lv_if_eq hx hb hd ht (fun c => k0 c H locs ls hP hS hl) (fun c => k1 c H locs ls hP hS hl)
theorem go_if_eq {g : gp} {i : mI} {pc : Nat} {ll : List (Option Value)} {st : List Value} {u : sg} {Q : Option Value → sg → Prop} {x : Int32} {off : Int} {tgt : Nat} (hd : decode (mC i) pc = .ok (.ifCond .eq off, 3)) (ht : (pc : Int) + off = (tgt : Int)) (k0 : x = 0 → Go g i (tgt) (ll) (st) (u) Q) (k1 : ¬ x = 0 → Go g i (pc + 3) (ll) (st) (u) Q) : Go g i (pc) (ll) (.int x :: st) (u) Q := fun p e s m args below meth c C => gx_if_eq C hd ht (fun c0 => k0 c0 p e s m args below meth c C) (fun c0 => k1 c0 p e s m args below meth c C)
theorem gx_if_ne {g : gp} {i : mI} {p : Program} {e : Env} {R : Room} {s : State} {m : MethodId} {args : Array Value} {below : List Frame} {meth : Method} {c : Code} {cells slots : Nat} {Q : State → Prop} {pc : Nat} {ll : List (Option Value)} {st : List Value} {u : sg} {x : Int32} {off : Int} {tgt : Nat} (C : Cx g i p s m args meth c) (hd : decode (mC i) pc = .ok (.ifCond .ne off, 3)) (ht : (pc : Int) + off = (tgt : Int)) (k0 : ¬ x = 0 → Gx g i p e R s m args below meth c cells slots Q (tgt) (ll) (st) (u)) (k1 : x = 0 → Gx g i p e R s m args below meth c cells slots Q (pc + 3) (ll) (st) (u)) : Gx g i p e R s m args below meth c cells slots Q (pc) (ll) (.int x :: st) (u) := by
  obtain ⟨hx, hb, hml, hr, hlk, hown, hts, hK, hok, hxt⟩ := C
  intro H locs ls hP hS hl
  exact lv_if_ne hx hb hd ht (fun c => k0 c H locs ls hP hS hl) (fun c => k1 c H locs ls hP hS hl)
theorem go_if_ne {g : gp} {i : mI} {pc : Nat} {ll : List (Option Value)} {st : List Value} {u : sg} {Q : Option Value → sg → Prop} {x : Int32} {off : Int} {tgt : Nat} (hd : decode (mC i) pc = .ok (.ifCond .ne off, 3)) (ht : (pc : Int) + off = (tgt : Int)) (k0 : ¬ x = 0 → Go g i (tgt) (ll) (st) (u) Q) (k1 : x = 0 → Go g i (pc + 3) (ll) (st) (u) Q) : Go g i (pc) (ll) (.int x :: st) (u) Q := fun p e s m args below meth c C => gx_if_ne C hd ht (fun c0 => k0 c0 p e s m args below meth c C) (fun c0 => k1 c0 p e s m args below meth c C)
theorem gx_if_lt {g : gp} {i : mI} {p : Program} {e : Env} {R : Room} {s : State} {m : MethodId} {args : Array Value} {below : List Frame} {meth : Method} {c : Code} {cells slots : Nat} {Q : State → Prop} {pc : Nat} {ll : List (Option Value)} {st : List Value} {u : sg} {x : Int32} {off : Int} {tgt : Nat} (C : Cx g i p s m args meth c) (hd : decode (mC i) pc = .ok (.ifCond .lt off, 3)) (ht : (pc : Int) + off = (tgt : Int)) (k0 : x < 0 → Gx g i p e R s m args below meth c cells slots Q (tgt) (ll) (st) (u)) (k1 : ¬ x < 0 → Gx g i p e R s m args below meth c cells slots Q (pc + 3) (ll) (st) (u)) : Gx g i p e R s m args below meth c cells slots Q (pc) (ll) (.int x :: st) (u) := by
  obtain ⟨hx, hb, hml, hr, hlk, hown, hts, hK, hok, hxt⟩ := C
  intro H locs ls hP hS hl
  exact lv_if_lt hx hb hd ht (fun c => k0 c H locs ls hP hS hl) (fun c => k1 c H locs ls hP hS hl)
theorem go_if_lt {g : gp} {i : mI} {pc : Nat} {ll : List (Option Value)} {st : List Value} {u : sg} {Q : Option Value → sg → Prop} {x : Int32} {off : Int} {tgt : Nat} (hd : decode (mC i) pc = .ok (.ifCond .lt off, 3)) (ht : (pc : Int) + off = (tgt : Int)) (k0 : x < 0 → Go g i (tgt) (ll) (st) (u) Q) (k1 : ¬ x < 0 → Go g i (pc + 3) (ll) (st) (u) Q) : Go g i (pc) (ll) (.int x :: st) (u) Q := fun p e s m args below meth c C => gx_if_lt C hd ht (fun c0 => k0 c0 p e s m args below meth c C) (fun c0 => k1 c0 p e s m args below meth c C)
theorem gx_if_ge {g : gp} {i : mI} {p : Program} {e : Env} {R : Room} {s : State} {m : MethodId} {args : Array Value} {below : List Frame} {meth : Method} {c : Code} {cells slots : Nat} {Q : State → Prop} {pc : Nat} {ll : List (Option Value)} {st : List Value} {u : sg} {x : Int32} {off : Int} {tgt : Nat} (C : Cx g i p s m args meth c) (hd : decode (mC i) pc = .ok (.ifCond .ge off, 3)) (ht : (pc : Int) + off = (tgt : Int)) (k0 : 0 ≤ x → Gx g i p e R s m args below meth c cells slots Q (tgt) (ll) (st) (u)) (k1 : ¬ 0 ≤ x → Gx g i p e R s m args below meth c cells slots Q (pc + 3) (ll) (st) (u)) : Gx g i p e R s m args below meth c cells slots Q (pc) (ll) (.int x :: st) (u) := by
  obtain ⟨hx, hb, hml, hr, hlk, hown, hts, hK, hok, hxt⟩ := C
  intro H locs ls hP hS hl
  exact lv_if_ge hx hb hd ht (fun c => k0 c H locs ls hP hS hl) (fun c => k1 c H locs ls hP hS hl)
theorem go_if_ge {g : gp} {i : mI} {pc : Nat} {ll : List (Option Value)} {st : List Value} {u : sg} {Q : Option Value → sg → Prop} {x : Int32} {off : Int} {tgt : Nat} (hd : decode (mC i) pc = .ok (.ifCond .ge off, 3)) (ht : (pc : Int) + off = (tgt : Int)) (k0 : 0 ≤ x → Go g i (tgt) (ll) (st) (u) Q) (k1 : ¬ 0 ≤ x → Go g i (pc + 3) (ll) (st) (u) Q) : Go g i (pc) (ll) (.int x :: st) (u) Q := fun p e s m args below meth c C => gx_if_ge C hd ht (fun c0 => k0 c0 p e s m args below meth c C) (fun c0 => k1 c0 p e s m args below meth c C)
theorem gx_if_gt {g : gp} {i : mI} {p : Program} {e : Env} {R : Room} {s : State} {m : MethodId} {args : Array Value} {below : List Frame} {meth : Method} {c : Code} {cells slots : Nat} {Q : State → Prop} {pc : Nat} {ll : List (Option Value)} {st : List Value} {u : sg} {x : Int32} {off : Int} {tgt : Nat} (C : Cx g i p s m args meth c) (hd : decode (mC i) pc = .ok (.ifCond .gt off, 3)) (ht : (pc : Int) + off = (tgt : Int)) (k0 : 0 < x → Gx g i p e R s m args below meth c cells slots Q (tgt) (ll) (st) (u)) (k1 : ¬ 0 < x → Gx g i p e R s m args below meth c cells slots Q (pc + 3) (ll) (st) (u)) : Gx g i p e R s m args below meth c cells slots Q (pc) (ll) (.int x :: st) (u) := by
  obtain ⟨hx, hb, hml, hr, hlk, hown, hts, hK, hok, hxt⟩ := C
  intro H locs ls hP hS hl
  exact lv_if_gt hx hb hd ht (fun c => k0 c H locs ls hP hS hl) (fun c => k1 c H locs ls hP hS hl)
theorem go_if_gt {g : gp} {i : mI} {pc : Nat} {ll : List (Option Value)} {st : List Value} {u : sg} {Q : Option Value → sg → Prop} {x : Int32} {off : Int} {tgt : Nat} (hd : decode (mC i) pc = .ok (.ifCond .gt off, 3)) (ht : (pc : Int) + off = (tgt : Int)) (k0 : 0 < x → Go g i (tgt) (ll) (st) (u) Q) (k1 : ¬ 0 < x → Go g i (pc + 3) (ll) (st) (u) Q) : Go g i (pc) (ll) (.int x :: st) (u) Q := fun p e s m args below meth c C => gx_if_gt C hd ht (fun c0 => k0 c0 p e s m args below meth c C) (fun c0 => k1 c0 p e s m args below meth c C)
theorem gx_if_le {g : gp} {i : mI} {p : Program} {e : Env} {R : Room} {s : State} {m : MethodId} {args : Array Value} {below : List Frame} {meth : Method} {c : Code} {cells slots : Nat} {Q : State → Prop} {pc : Nat} {ll : List (Option Value)} {st : List Value} {u : sg} {x : Int32} {off : Int} {tgt : Nat} (C : Cx g i p s m args meth c) (hd : decode (mC i) pc = .ok (.ifCond .le off, 3)) (ht : (pc : Int) + off = (tgt : Int)) (k0 : x ≤ 0 → Gx g i p e R s m args below meth c cells slots Q (tgt) (ll) (st) (u)) (k1 : ¬ x ≤ 0 → Gx g i p e R s m args below meth c cells slots Q (pc + 3) (ll) (st) (u)) : Gx g i p e R s m args below meth c cells slots Q (pc) (ll) (.int x :: st) (u) := by
  obtain ⟨hx, hb, hml, hr, hlk, hown, hts, hK, hok, hxt⟩ := C
  intro H locs ls hP hS hl
  exact lv_if_le hx hb hd ht (fun c => k0 c H locs ls hP hS hl) (fun c => k1 c H locs ls hP hS hl)
theorem go_if_le {g : gp} {i : mI} {pc : Nat} {ll : List (Option Value)} {st : List Value} {u : sg} {Q : Option Value → sg → Prop} {x : Int32} {off : Int} {tgt : Nat} (hd : decode (mC i) pc = .ok (.ifCond .le off, 3)) (ht : (pc : Int) + off = (tgt : Int)) (k0 : x ≤ 0 → Go g i (tgt) (ll) (st) (u) Q) (k1 : ¬ x ≤ 0 → Go g i (pc + 3) (ll) (st) (u) Q) : Go g i (pc) (ll) (.int x :: st) (u) Q := fun p e s m args below meth c C => gx_if_le C hd ht (fun c0 => k0 c0 p e s m args below meth c C) (fun c0 => k1 c0 p e s m args below meth c C)
theorem gx_icmp_eq {g : gp} {i : mI} {p : Program} {e : Env} {R : Room} {s : State} {m : MethodId} {args : Array Value} {below : List Frame} {meth : Method} {c : Code} {cells slots : Nat} {Q : State → Prop} {pc : Nat} {ll : List (Option Value)} {st : List Value} {u : sg} {x y : Int32} {off : Int} {tgt : Nat} (C : Cx g i p s m args meth c) (hd : decode (mC i) pc = .ok (.if_icmp .eq off, 3)) (ht : (pc : Int) + off = (tgt : Int)) (k0 : x = y → Gx g i p e R s m args below meth c cells slots Q (tgt) (ll) (st) (u)) (k1 : ¬ x = y → Gx g i p e R s m args below meth c cells slots Q (pc + 3) (ll) (st) (u)) : Gx g i p e R s m args below meth c cells slots Q (pc) (ll) (.int y :: .int x :: st) (u) := by
  obtain ⟨hx, hb, hml, hr, hlk, hown, hts, hK, hok, hxt⟩ := C
  intro H locs ls hP hS hl
  exact lv_icmp_eq hx hb hd ht (fun c => k0 c H locs ls hP hS hl) (fun c => k1 c H locs ls hP hS hl)
theorem go_icmp_eq {g : gp} {i : mI} {pc : Nat} {ll : List (Option Value)} {st : List Value} {u : sg} {Q : Option Value → sg → Prop} {x y : Int32} {off : Int} {tgt : Nat} (hd : decode (mC i) pc = .ok (.if_icmp .eq off, 3)) (ht : (pc : Int) + off = (tgt : Int)) (k0 : x = y → Go g i (tgt) (ll) (st) (u) Q) (k1 : ¬ x = y → Go g i (pc + 3) (ll) (st) (u) Q) : Go g i (pc) (ll) (.int y :: .int x :: st) (u) Q := fun p e s m args below meth c C => gx_icmp_eq C hd ht (fun c0 => k0 c0 p e s m args below meth c C) (fun c0 => k1 c0 p e s m args below meth c C)
theorem gx_icmp_ne {g : gp} {i : mI} {p : Program} {e : Env} {R : Room} {s : State} {m : MethodId} {args : Array Value} {below : List Frame} {meth : Method} {c : Code} {cells slots : Nat} {Q : State → Prop} {pc : Nat} {ll : List (Option Value)} {st : List Value} {u : sg} {x y : Int32} {off : Int} {tgt : Nat} (C : Cx g i p s m args meth c) (hd : decode (mC i) pc = .ok (.if_icmp .ne off, 3)) (ht : (pc : Int) + off = (tgt : Int)) (k0 : ¬ x = y → Gx g i p e R s m args below meth c cells slots Q (tgt) (ll) (st) (u)) (k1 : x = y → Gx g i p e R s m args below meth c cells slots Q (pc + 3) (ll) (st) (u)) : Gx g i p e R s m args below meth c cells slots Q (pc) (ll) (.int y :: .int x :: st) (u) := by
  obtain ⟨hx, hb, hml, hr, hlk, hown, hts, hK, hok, hxt⟩ := C
  intro H locs ls hP hS hl
  exact lv_icmp_ne hx hb hd ht (fun c => k0 c H locs ls hP hS hl) (fun c => k1 c H locs ls hP hS hl)
theorem go_icmp_ne {g : gp} {i : mI} {pc : Nat} {ll : List (Option Value)} {st : List Value} {u : sg} {Q : Option Value → sg → Prop} {x y : Int32} {off : Int} {tgt : Nat} (hd : decode (mC i) pc = .ok (.if_icmp .ne off, 3)) (ht : (pc : Int) + off = (tgt : Int)) (k0 : ¬ x = y → Go g i (tgt) (ll) (st) (u) Q) (k1 : x = y → Go g i (pc + 3) (ll) (st) (u) Q) : Go g i (pc) (ll) (.int y :: .int x :: st) (u) Q := fun p e s m args below meth c C => gx_icmp_ne C hd ht (fun c0 => k0 c0 p e s m args below meth c C) (fun c0 => k1 c0 p e s m args below meth c C)
theorem gx_icmp_lt {g : gp} {i : mI} {p : Program} {e : Env} {R : Room} {s : State} {m : MethodId} {args : Array Value} {below : List Frame} {meth : Method} {c : Code} {cells slots : Nat} {Q : State → Prop} {pc : Nat} {ll : List (Option Value)} {st : List Value} {u : sg} {x y : Int32} {off : Int} {tgt : Nat} (C : Cx g i p s m args meth c) (hd : decode (mC i) pc = .ok (.if_icmp .lt off, 3)) (ht : (pc : Int) + off = (tgt : Int)) (k0 : x < y → Gx g i p e R s m args below meth c cells slots Q (tgt) (ll) (st) (u)) (k1 : ¬ x < y → Gx g i p e R s m args below meth c cells slots Q (pc + 3) (ll) (st) (u)) : Gx g i p e R s m args below meth c cells slots Q (pc) (ll) (.int y :: .int x :: st) (u) := by
  obtain ⟨hx, hb, hml, hr, hlk, hown, hts, hK, hok, hxt⟩ := C
  intro H locs ls hP hS hl
  exact lv_icmp_lt hx hb hd ht (fun c => k0 c H locs ls hP hS hl) (fun c => k1 c H locs ls hP hS hl)
theorem go_icmp_lt {g : gp} {i : mI} {pc : Nat} {ll : List (Option Value)} {st : List Value} {u : sg} {Q : Option Value → sg → Prop} {x y : Int32} {off : Int} {tgt : Nat} (hd : decode (mC i) pc = .ok (.if_icmp .lt off, 3)) (ht : (pc : Int) + off = (tgt : Int)) (k0 : x < y → Go g i (tgt) (ll) (st) (u) Q) (k1 : ¬ x < y → Go g i (pc + 3) (ll) (st) (u) Q) : Go g i (pc) (ll) (.int y :: .int x :: st) (u) Q := fun p e s m args below meth c C => gx_icmp_lt C hd ht (fun c0 => k0 c0 p e s m args below meth c C) (fun c0 => k1 c0 p e s m args below meth c C)
theorem gx_icmp_ge {g : gp} {i : mI} {p : Program} {e : Env} {R : Room} {s : State} {m : MethodId} {args : Array Value} {below : List Frame} {meth : Method} {c : Code} {cells slots : Nat} {Q : State → Prop} {pc : Nat} {ll : List (Option Value)} {st : List Value} {u : sg} {x y : Int32} {off : Int} {tgt : Nat} (C : Cx g i p s m args meth c) (hd : decode (mC i) pc = .ok (.if_icmp .ge off, 3)) (ht : (pc : Int) + off = (tgt : Int)) (k0 : y ≤ x → Gx g i p e R s m args below meth c cells slots Q (tgt) (ll) (st) (u)) (k1 : ¬ y ≤ x → Gx g i p e R s m args below meth c cells slots Q (pc + 3) (ll) (st) (u)) : Gx g i p e R s m args below meth c cells slots Q (pc) (ll) (.int y :: .int x :: st) (u) := by
  obtain ⟨hx, hb, hml, hr, hlk, hown, hts, hK, hok, hxt⟩ := C
  intro H locs ls hP hS hl
  exact lv_icmp_ge hx hb hd ht (fun c => k0 c H locs ls hP hS hl) (fun c => k1 c H locs ls hP hS hl)
theorem go_icmp_ge {g : gp} {i : mI} {pc : Nat} {ll : List (Option Value)} {st : List Value} {u : sg} {Q : Option Value → sg → Prop} {x y : Int32} {off : Int} {tgt : Nat} (hd : decode (mC i) pc = .ok (.if_icmp .ge off, 3)) (ht : (pc : Int) + off = (tgt : Int)) (k0 : y ≤ x → Go g i (tgt) (ll) (st) (u) Q) (k1 : ¬ y ≤ x → Go g i (pc + 3) (ll) (st) (u) Q) : Go g i (pc) (ll) (.int y :: .int x :: st) (u) Q := fun p e s m args below meth c C => gx_icmp_ge C hd ht (fun c0 => k0 c0 p e s m args below meth c C) (fun c0 => k1 c0 p e s m args below meth c C)
theorem gx_icmp_gt {g : gp} {i : mI} {p : Program} {e : Env} {R : Room} {s : State} {m : MethodId} {args : Array Value} {below : List Frame} {meth : Method} {c : Code} {cells slots : Nat} {Q : State → Prop} {pc : Nat} {ll : List (Option Value)} {st : List Value} {u : sg} {x y : Int32} {off : Int} {tgt : Nat} (C : Cx g i p s m args meth c) (hd : decode (mC i) pc = .ok (.if_icmp .gt off, 3)) (ht : (pc : Int) + off = (tgt : Int)) (k0 : y < x → Gx g i p e R s m args below meth c cells slots Q (tgt) (ll) (st) (u)) (k1 : ¬ y < x → Gx g i p e R s m args below meth c cells slots Q (pc + 3) (ll) (st) (u)) : Gx g i p e R s m args below meth c cells slots Q (pc) (ll) (.int y :: .int x :: st) (u) := by
  obtain ⟨hx, hb, hml, hr, hlk, hown, hts, hK, hok, hxt⟩ := C
  intro H locs ls hP hS hl
  exact lv_icmp_gt hx hb hd ht (fun c => k0 c H locs ls hP hS hl) (fun c => k1 c H locs ls hP hS hl)
theorem go_icmp_gt {g : gp} {i : mI} {pc : Nat} {ll : List (Option Value)} {st : List Value} {u : sg} {Q : Option Value → sg → Prop} {x y : Int32} {off : Int} {tgt : Nat} (hd : decode (mC i) pc = .ok (.if_icmp .gt off, 3)) (ht : (pc : Int) + off = (tgt : Int)) (k0 : y < x → Go g i (tgt) (ll) (st) (u) Q) (k1 : ¬ y < x → Go g i (pc + 3) (ll) (st) (u) Q) : Go g i (pc) (ll) (.int y :: .int x :: st) (u) Q := fun p e s m args below meth c C => gx_icmp_gt C hd ht (fun c0 => k0 c0 p e s m args below meth c C) (fun c0 => k1 c0 p e s m args below meth c C)
theorem gx_icmp_le {g : gp} {i : mI} {p : Program} {e : Env} {R : Room} {s : State} {m : MethodId} {args : Array Value} {below : List Frame} {meth : Method} {c : Code} {cells slots : Nat} {Q : State → Prop} {pc : Nat} {ll : List (Option Value)} {st : List Value} {u : sg} {x y : Int32} {off : Int} {tgt : Nat} (C : Cx g i p s m args meth c) (hd : decode (mC i) pc = .ok (.if_icmp .le off, 3)) (ht : (pc : Int) + off = (tgt : Int)) (k0 : x ≤ y → Gx g i p e R s m args below meth c cells slots Q (tgt) (ll) (st) (u)) (k1 : ¬ x ≤ y → Gx g i p e R s m args below meth c cells slots Q (pc + 3) (ll) (st) (u)) : Gx g i p e R s m args below meth c cells slots Q (pc) (ll) (.int y :: .int x :: st) (u) := by
  obtain ⟨hx, hb, hml, hr, hlk, hown, hts, hK, hok, hxt⟩ := C
  intro H locs ls hP hS hl
  exact lv_icmp_le hx hb hd ht (fun c => k0 c H locs ls hP hS hl) (fun c => k1 c H locs ls hP hS hl)
theorem go_icmp_le {g : gp} {i : mI} {pc : Nat} {ll : List (Option Value)} {st : List Value} {u : sg} {Q : Option Value → sg → Prop} {x y : Int32} {off : Int} {tgt : Nat} (hd : decode (mC i) pc = .ok (.if_icmp .le off, 3)) (ht : (pc : Int) + off = (tgt : Int)) (k0 : x ≤ y → Go g i (tgt) (ll) (st) (u) Q) (k1 : ¬ x ≤ y → Go g i (pc + 3) (ll) (st) (u) Q) : Go g i (pc) (ll) (.int y :: .int x :: st) (u) Q := fun p e s m args below meth c C => gx_icmp_le C hd ht (fun c0 => k0 c0 p e s m args below meth c C) (fun c0 => k1 c0 p e s m args below meth c C)
theorem gx_tabIn {g : gp} {i : mI} {p : Program} {e : Env} {R : Room} {s : State} {m : MethodId} {args : Array Value} {below : List Frame} {meth : Method} {c : Code} {cells slots : Nat} {Q : State → Prop} {pc : Nat} {ll : List (Option Value)} {st : List Value} {u : sg} {dflt lo hi : Int} {offs : Array Int} {len : Nat} {x : Int32} {off : Int} {tgt : Nat} (C : Cx g i p s m args meth c) (hd : decode (mC i) pc = .ok (.tableswitch dflt lo hi offs, len)) (h1 : ¬ x.toInt < lo) (h2 : ¬ hi < x.toInt) (ho : offs[(x.toInt - lo).toNat]? = some off) (ht : (pc : Int) + off = (tgt : Int)) (k0 : Gx g i p e R s m args below meth c cells slots Q (tgt) (ll) (st) (u)) : Gx g i p e R s m args below meth c cells slots Q (pc) (ll) (.int x :: st) (u) := by
  obtain ⟨hx, hb, hml, hr, hlk, hown, hts, hK, hok, hxt⟩ := C
  intro H locs ls hP hS hl
  exact lv_tableIn hx hb hd h1 h2 ho ht (k0 H locs ls hP hS hl)
theorem go_tabIn {g : gp} {i : mI} {pc : Nat} {ll : List (Option Value)} {st : List Value} {u : sg} {Q : Option Value → sg → Prop} {dflt lo hi : Int} {offs : Array Int} {len : Nat} {x : Int32} {off : Int} {tgt : Nat} (hd : decode (mC i) pc = .ok (.tableswitch dflt lo hi offs, len)) (h1 : ¬ x.toInt < lo) (h2 : ¬ hi < x.toInt) (ho : offs[(x.toInt - lo).toNat]? = some off) (ht : (pc : Int) + off = (tgt : Int)) (k0 : Go g i (tgt) (ll) (st) (u) Q) : Go g i (pc) (ll) (.int x :: st) (u) Q := fun p e s m args below meth c C => gx_tabIn C hd h1 h2 ho ht (k0 p e s m args below meth c C)
theorem gx_tabOut {g : gp} {i : mI} {p : Program} {e : Env} {R : Room} {s : State} {m : MethodId} {args : Array Value} {below : List Frame} {meth : Method} {c : Code} {cells slots : Nat} {Q : State → Prop} {pc : Nat} {ll : List (Option Value)} {st : List Value} {u : sg} {dflt lo hi : Int} {offs : Array Int} {len : Nat} {x : Int32} {tgt : Nat} (C : Cx g i p s m args meth c) (hd : decode (mC i) pc = .ok (.tableswitch dflt lo hi offs, len)) (h1 : x.toInt < lo ∨ hi < x.toInt) (ht : (pc : Int) + dflt = (tgt : Int)) (k0 : Gx g i p e R s m args below meth c cells slots Q (tgt) (ll) (st) (u)) : Gx g i p e R s m args below meth c cells slots Q (pc) (ll) (.int x :: st) (u) := by
  obtain ⟨hx, hb, hml, hr, hlk, hown, hts, hK, hok, hxt⟩ := C
  intro H locs ls hP hS hl
  exact lv_tableOut hx hb hd h1 ht (k0 H locs ls hP hS hl)
theorem go_tabOut {g : gp} {i : mI} {pc : Nat} {ll : List (Option Value)} {st : List Value} {u : sg} {Q : Option Value → sg → Prop} {dflt lo hi : Int} {offs : Array Int} {len : Nat} {x : Int32} {tgt : Nat} (hd : decode (mC i) pc = .ok (.tableswitch dflt lo hi offs, len)) (h1 : x.toInt < lo ∨ hi < x.toInt) (ht : (pc : Int) + dflt = (tgt : Int)) (k0 : Go g i (tgt) (ll) (st) (u) Q) : Go g i (pc) (ll) (.int x :: st) (u) Q := fun p e s m args below meth c C => gx_tabOut C hd h1 ht (k0 p e s m args below meth c C)
theorem gx_get {g : gp} {i : mI} {p : Program} {e : Env} {R : Room} {s : State} {m : MethodId} {args : Array Value} {below : List Frame} {meth : Method} {c : Code} {cells slots : Nat} {Q : State → Prop} {pc : Nat} {ll : List (Option Value)} {st : List Value} {u : sg} {n o k N : Nat} {D : String} {T : u_T} {v : Value} (C : Cx g i p s m args meth c) (hd : decode (mC i) pc = .ok (.getfield n, 3)) (ho : obF o D T N) (hk : k < N) (hw : Cond.fieldLink (mO i) n (T k).1 (T k).2.1 (T k).2.2.1 ∈ TB) (hv : fv g u o k = v) (k0 : Gx g i p e R s m args below meth c cells slots Q (pc + 3) (ll) (v :: st) (u)) : Gx g i p e R s m args below meth c cells slots Q (pc) (ll) (.ref (gd g o) :: st) (u) := by
  obtain ⟨hx, hb, hml, hr, hlk, hown, hts, hK, hok, hxt⟩ := C
  intro H locs ls hP hS hl
  obtain ⟨o1, o2, o3, o4, o5, ty, o6⟩ := ho
  have hoW : o < nW := Nat.lt_trans o3 (by decide)
  refine va_get (D := gD g) (cl := vwCl) (ci := ocL.getD o 0) (v := v) (C := D) (T := T) (N := N) (fs := fs g u o) hx hb hts o1 hown hK hP o ?_ o2 k hk (hts _ hw) (fun _ h => h) ?_ hd (k0 H locs ls hP hS hl)
  · rw [wd_at hoW]; simp [ce, o3]
  · rw [fs_at (by rw [o4]; exact hk), hv]
theorem go_get {g : gp} {i : mI} {pc : Nat} {ll : List (Option Value)} {st : List Value} {u : sg} {Q : Option Value → sg → Prop} {n o k N : Nat} {D : String} {T : u_T} {v : Value} (hd : decode (mC i) pc = .ok (.getfield n, 3)) (ho : obF o D T N) (hk : k < N) (hw : Cond.fieldLink (mO i) n (T k).1 (T k).2.1 (T k).2.2.1 ∈ TB) (hv : fv g u o k = v) (k0 : Go g i (pc + 3) (ll) (v :: st) (u) Q) : Go g i (pc) (ll) (.ref (gd g o) :: st) (u) Q := fun p e s m args below meth c C => gx_get C hd ho hk hw hv (k0 p e s m args below meth c C)
theorem gx_put {g : gp} {i : mI} {p : Program} {e : Env} {R : Room} {s : State} {m : MethodId} {args : Array Value} {below : List Frame} {meth : Method} {c : Code} {cells slots : Nat} {Q : State → Prop} {pc : Nat} {ll : List (Option Value)} {st : List Value} {u : sg} {n o k N : Nat} {D : String} {T : u_T} {x : Int32} (C : Cx g i p s m args meth c) (hd : decode (mC i) pc = .ok (.putfield n, 3)) (ho : obF o D T N) (hk : k < N) (hw : Cond.fieldLink (mO i) n (T k).1 (T k).2.1 (T k).2.2.1 ∈ TB) (hn : rt o k = none) (hf : (T k).2.2.2 = false) (hy : parseFieldDescriptor (T k).2.2.1 = some .int) (k0 : Gx g i p e R s m args below meth c cells slots Q (pc + 3) (ll) (st) (sI u o k x)) : Gx g i p e R s m args below meth c cells slots Q (pc) (ll) (.int x :: .ref (gd g o) :: st) (u) := by
  obtain ⟨hx, hb, hml, hr, hlk, hown, hts, hK, hok, hxt⟩ := C
  intro H locs ls hP hS hl
  obtain ⟨o1, o2, o3, o4, o5, ty, o6⟩ := ho
  have hoW : o < nW := Nat.lt_trans o3 (by decide)
  have hkl : k < (rtL.getD o []).length := by rw [o4]; exact hk
  refine va_put (D := gD g) (cl := vwCl) (ci := ocL.getD o 0) (v := .int x) (ty := .int) (C := D) (T := T) (N := N) (fs := fs g u o) hx hb hts o1 ty o6 o5 hown hK hP (wd_D hok u) hS o ?_ o2 k hk (hts _ hw) (fun _ h => h) hf hy (vp_nar_int x) rfl (by rw [fs_len]; exact hkl) hd (fun H1 locs1 hP1 hD1 hS1 => ?_)
  · rw [wd_at hoW]; simp [ce, o3]
  · rw [wd_sI x hoW o3 hn hkl] at hP1
    exact k0 H1 locs1 ls hP1 hS1 hl
theorem go_put {g : gp} {i : mI} {pc : Nat} {ll : List (Option Value)} {st : List Value} {u : sg} {Q : Option Value → sg → Prop} {n o k N : Nat} {D : String} {T : u_T} {x : Int32} (hd : decode (mC i) pc = .ok (.putfield n, 3)) (ho : obF o D T N) (hk : k < N) (hw : Cond.fieldLink (mO i) n (T k).1 (T k).2.1 (T k).2.2.1 ∈ TB) (hn : rt o k = none) (hf : (T k).2.2.2 = false) (hy : parseFieldDescriptor (T k).2.2.1 = some .int) (k0 : Go g i (pc + 3) (ll) (st) (sI u o k x) Q) : Go g i (pc) (ll) (.int x :: .ref (gd g o) :: st) (u) Q := fun p e s m args below meth c C => gx_put C hd ho hk hw hn hf hy (k0 p e s m args below meth c C)
theorem gx_ild {g : gp} {i : mI} {p : Program} {e : Env} {R : Room} {s : State} {m : MethodId} {args : Array Value} {below : List Frame} {meth : Method} {c : Code} {cells slots : Nat} {Q : State → Prop} {pc : Nat} {ll : List (Option Value)} {st : List Value} {u : sg} {a n : Nat} {j : Int32} (C : Cx g i p s m args meth c) (hd : decode (mC i) pc = .ok (.iaload, 1)) (ha : a < nW) (hb2 : ¬ a < nO) (hn : al a = n) (hi : vp_in j n) (k0 : Gx g i p e R s m args below meth c cells slots Q (pc + 1) (ll) (.int (u.2 a j.toNatClampNeg) :: st) (u)) : Gx g i p e R s m args below meth c cells slots Q (pc) (ll) (.int j :: .ref (gd g a) :: st) (u) := by
  obtain ⟨hx, hb, hml, hr, hlk, hown, hts, hK, hok, hxt⟩ := C
  intro H locs ls hP hS hl
  refine va_iald (D := gD g) (cl := vwCl) (tys := [(gA g, .int)]) (n := n) (f := u.2 a) (cA := gA g) hx hb hK hP a 0 ?_ rfl hi hd (k0 H locs ls hP hS hl)
  rw [wd_at ha]; simp [ce, hb2, hn]
theorem go_ild {g : gp} {i : mI} {pc : Nat} {ll : List (Option Value)} {st : List Value} {u : sg} {Q : Option Value → sg → Prop} {a n : Nat} {j : Int32} (hd : decode (mC i) pc = .ok (.iaload, 1)) (ha : a < nW) (hb2 : ¬ a < nO) (hn : al a = n) (hi : vp_in j n) (k0 : Go g i (pc + 1) (ll) (.int (u.2 a j.toNatClampNeg) :: st) (u) Q) : Go g i (pc) (ll) (.int j :: .ref (gd g a) :: st) (u) Q := fun p e s m args below meth c C => gx_ild C hd ha hb2 hn hi (k0 p e s m args below meth c C)
theorem gx_ist {g : gp} {i : mI} {p : Program} {e : Env} {R : Room} {s : State} {m : MethodId} {args : Array Value} {below : List Frame} {meth : Method} {c : Code} {cells slots : Nat} {Q : State → Prop} {pc : Nat} {ll : List (Option Value)} {st : List Value} {u : sg} {a n : Nat} {j x : Int32} (C : Cx g i p s m args meth c) (hd : decode (mC i) pc = .ok (.iastore, 1)) (ha : a < nW) (hb2 : ¬ a < nO) (hn : al a = n) (hi : vp_in j n) (k0 : Gx g i p e R s m args below meth c cells slots Q (pc + 1) (ll) (st) (sA u a j.toNatClampNeg x)) : Gx g i p e R s m args below meth c cells slots Q (pc) (ll) (.int x :: .int j :: .ref (gd g a) :: st) (u) := by
  obtain ⟨hx, hb, hml, hr, hlk, hown, hts, hK, hok, hxt⟩ := C
  intro H locs ls hP hS hl
  subst hn
  refine va_iast (D := gD g) (cl := vwCl) (tys := [(gA g, .int)]) (n := al a) (f := u.2 a) (cA := gA g) hx hb hK hP (wd_D hok u) hS a 0 ?_ rfl hi hd (fun H1 locs1 hP1 hD1 hS1 => ?_)
  · rw [wd_at ha]; simp [ce, hb2]
  · rw [wd_sF _ ha hb2] at hP1
    exact k0 H1 locs1 ls hP1 hS1 hl
theorem go_ist {g : gp} {i : mI} {pc : Nat} {ll : List (Option Value)} {st : List Value} {u : sg} {Q : Option Value → sg → Prop} {a n : Nat} {j x : Int32} (hd : decode (mC i) pc = .ok (.iastore, 1)) (ha : a < nW) (hb2 : ¬ a < nO) (hn : al a = n) (hi : vp_in j n) (k0 : Go g i (pc + 1) (ll) (st) (sA u a j.toNatClampNeg x) Q) : Go g i (pc) (ll) (.int x :: .int j :: .ref (gd g a) :: st) (u) Q := fun p e s m args below meth c C => gx_ist C hd ha hb2 hn hi (k0 p e s m args below meth c C)
theorem gx_gst {g : gp} {i : mI} {p : Program} {e : Env} {R : Room} {s : State} {m : MethodId} {args : Array Value} {below : List Frame} {meth : Method} {c : Code} {cells slots : Nat} {Q : State → Prop} {pc : Nat} {ll : List (Option Value)} {st : List Value} {u : sg} {n t : Nat} {D N : String} (C : Cx g i p s m args meth c) (hd : decode (mC i) pc = .ok (.getstatic n, 3)) (ht : t < 3) (h1 : stC.getD t "" = D) (h2 : stN.getD t "" = N) (hw : Cond.fieldLink (mO i) n D N "[I" ∈ TB) (k0 : Gx g i p e R s m args below meth c cells slots Q (pc + 3) (ll) (.ref (gt g t) :: st) (u)) : Gx g i p e R s m args below meth c cells slots Q (pc) (ll) (st) (u) := by
  obtain ⟨hx, hb, hml, hr, hlk, hown, hts, hK, hok, hxt⟩ := C
  intro H locs ls hP hS hl
  subst h1 h2
  exact va_gets hx hb ((hxt.1 t ht).1) hS hown (hts _ hw) (fun _ h => h) hd (k0 H locs ls hP hS hl)
theorem go_gst {g : gp} {i : mI} {pc : Nat} {ll : List (Option Value)} {st : List Value} {u : sg} {Q : Option Value → sg → Prop} {n t : Nat} {D N : String} (hd : decode (mC i) pc = .ok (.getstatic n, 3)) (ht : t < 3) (h1 : stC.getD t "" = D) (h2 : stN.getD t "" = N) (hw : Cond.fieldLink (mO i) n D N "[I" ∈ TB) (k0 : Go g i (pc + 3) (ll) (.ref (gt g t) :: st) (u) Q) : Go g i (pc) (ll) (st) (u) Q := fun p e s m args below meth c C => gx_gst C hd ht h1 h2 hw (k0 p e s m args below meth c C)
theorem gx_tld {g : gp} {i : mI} {p : Program} {e : Env} {R : Room} {s : State} {m : MethodId} {args : Array Value} {below : List Frame} {meth : Method} {c : Code} {cells slots : Nat} {Q : State → Prop} {pc : Nat} {ll : List (Option Value)} {st : List Value} {u : sg} {t N : Nat} {j x : Int32} (C : Cx g i p s m args meth c) (hd : decode (mC i) pc = .ok (.iaload, 1)) (ht : t < 3) (hN : (stV.getD t []).length = N) (hi : vp_in j N) (hv : (stV.getD t []).getD j.toNatClampNeg 0 = x) (k0 : Gx g i p e R s m args below meth c cells slots Q (pc + 1) (ll) (.int x :: st) (u)) : Gx g i p e R s m args below meth c cells slots Q (pc) (ll) (.int j :: .ref (gt g t) :: st) (u) := by
  obtain ⟨hx, hb, hml, hr, hlk, hown, hts, hK, hok, hxt⟩ := C
  intro H locs ls hP hS hl
  subst hN hv
  exact va_ti hx hb ((hxt.1 t ht).2) hS hi rfl hd (k0 H locs ls hP hS hl)
theorem go_tld {g : gp} {i : mI} {pc : Nat} {ll : List (Option Value)} {st : List Value} {u : sg} {Q : Option Value → sg → Prop} {t N : Nat} {j x : Int32} (hd : decode (mC i) pc = .ok (.iaload, 1)) (ht : t < 3) (hN : (stV.getD t []).length = N) (hi : vp_in j N) (hv : (stV.getD t []).getD j.toNatClampNeg 0 = x) (k0 : Go g i (pc + 1) (ll) (.int x :: st) (u) Q) : Go g i (pc) (ll) (.int j :: .ref (gt g t) :: st) (u) Q := fun p e s m args below meth c C => gx_tld C hd ht hN hi hv (k0 p e s m args below meth c C)
theorem gx_gsc {g : gp} {i : mI} {p : Program} {e : Env} {R : Room} {s : State} {m : MethodId} {args : Array Value} {below : List Frame} {meth : Method} {c : Code} {cells slots : Nat} {Q : State → Prop} {pc : Nat} {ll : List (Option Value)} {st : List Value} {u : sg} {n : Nat} (C : Cx g i p s m args meth c) (hd : decode (mC i) pc = .ok (.getstatic n, 3)) (hw : Cond.fieldLink (mO i) n "java/lang/String" "COMPACT_STRINGS" "Z" ∈ TB) (k0 : Gx g i p e R s m args below meth c cells slots Q (pc + 3) (ll) (.int 1 :: st) (u)) : Gx g i p e R s m args below meth c cells slots Q (pc) (ll) (st) (u) := by
  obtain ⟨hx, hb, hml, hr, hlk, hown, hts, hK, hok, hxt⟩ := C
  intro H locs ls hP hS hl
  exact va_gets hx hb hxt.2.1 hS hown (hts _ hw) (fun _ h => h) hd (k0 H locs ls hP hS hl)
theorem go_gsc {g : gp} {i : mI} {pc : Nat} {ll : List (Option Value)} {st : List Value} {u : sg} {Q : Option Value → sg → Prop} {n : Nat} (hd : decode (mC i) pc = .ok (.getstatic n, 3)) (hw : Cond.fieldLink (mO i) n "java/lang/String" "COMPACT_STRINGS" "Z" ∈ TB) (k0 : Go g i (pc + 3) (ll) (.int 1 :: st) (u) Q) : Go g i (pc) (ll) (st) (u) Q := fun p e s m args below meth c C => gx_gsc C hd hw (k0 p e s m args below meth c C)
theorem gx_kco {g : gp} {i : mI} {p : Program} {e : Env} {R : Room} {s : State} {m : MethodId} {args : Array Value} {below : List Frame} {meth : Method} {c : Code} {cells slots : Nat} {Q : State → Prop} {pc : Nat} {ll : List (Option Value)} {st : List Value} {u : sg} {n w : Nat} (C : Cx g i p s m args meth c) (hd : decode (mC i) pc = .ok (.getfield n, 3)) (hw8 : w < 8) (hw : Cond.fieldLink (mO i) n "java/lang/String" "coder" "B" ∈ TB) (k0 : Gx g i p e R s m args below meth c cells slots Q (pc + 3) (ll) (.int 0 :: st) (u)) : Gx g i p e R s m args below meth c cells slots Q (pc) (ll) (.ref (gk g w) :: st) (u) := by
  obtain ⟨hx, hb, hml, hr, hlk, hown, hts, hK, hok, hxt⟩ := C
  intro H locs ls hP hS hl
  exact vk_getf hx hb ((hxt.2.2.1.1 w hw8).2.1) hS hown (hts _ hw) (fun _ h => h) hd (k0 H locs ls hP hS hl)
theorem go_kco {g : gp} {i : mI} {pc : Nat} {ll : List (Option Value)} {st : List Value} {u : sg} {Q : Option Value → sg → Prop} {n w : Nat} (hd : decode (mC i) pc = .ok (.getfield n, 3)) (hw8 : w < 8) (hw : Cond.fieldLink (mO i) n "java/lang/String" "coder" "B" ∈ TB) (k0 : Go g i (pc + 3) (ll) (.int 0 :: st) (u) Q) : Go g i (pc) (ll) (.ref (gk g w) :: st) (u) Q := fun p e s m args below meth c C => gx_kco C hd hw8 hw (k0 p e s m args below meth c C)
theorem gx_kva {g : gp} {i : mI} {p : Program} {e : Env} {R : Room} {s : State} {m : MethodId} {args : Array Value} {below : List Frame} {meth : Method} {c : Code} {cells slots : Nat} {Q : State → Prop} {pc : Nat} {ll : List (Option Value)} {st : List Value} {u : sg} {n w : Nat} (C : Cx g i p s m args meth c) (hd : decode (mC i) pc = .ok (.getfield n, 3)) (hw8 : w < 8) (hw : Cond.fieldLink (mO i) n "java/lang/String" "value" "[B" ∈ TB) (k0 : Gx g i p e R s m args below meth c cells slots Q (pc + 3) (ll) (.ref (gv g w) :: st) (u)) : Gx g i p e R s m args below meth c cells slots Q (pc) (ll) (.ref (gk g w) :: st) (u) := by
  obtain ⟨hx, hb, hml, hr, hlk, hown, hts, hK, hok, hxt⟩ := C
  intro H locs ls hP hS hl
  exact vk_getf hx hb ((hxt.2.2.1.1 w hw8).2.2.1) hS hown (hts _ hw) (fun _ h => h) hd (k0 H locs ls hP hS hl)
theorem go_kva {g : gp} {i : mI} {pc : Nat} {ll : List (Option Value)} {st : List Value} {u : sg} {Q : Option Value → sg → Prop} {n w : Nat} (hd : decode (mC i) pc = .ok (.getfield n, 3)) (hw8 : w < 8) (hw : Cond.fieldLink (mO i) n "java/lang/String" "value" "[B" ∈ TB) (k0 : Go g i (pc + 3) (ll) (.ref (gv g w) :: st) (u) Q) : Go g i (pc) (ll) (.ref (gk g w) :: st) (u) Q := fun p e s m args below meth c C => gx_kva C hd hw8 hw (k0 p e s m args below meth c C)
theorem gx_kle {g : gp} {i : mI} {p : Program} {e : Env} {R : Room} {s : State} {m : MethodId} {args : Array Value} {below : List Frame} {meth : Method} {c : Code} {cells slots : Nat} {Q : State → Prop} {pc : Nat} {ll : List (Option Value)} {st : List Value} {u : sg} {w : Nat} (C : Cx g i p s m args meth c) (hd : decode (mC i) pc = .ok (.arraylength, 1)) (hw8 : w < 8) (k0 : Gx g i p e R s m args below meth c cells slots Q (pc + 1) (ll) (.int (nI (skL.getD w 0)) :: st) (u)) : Gx g i p e R s m args below meth c cells slots Q (pc) (ll) (.ref (gv g w) :: st) (u) := by
  obtain ⟨hx, hb, hml, hr, hlk, hown, hts, hK, hok, hxt⟩ := C
  intro H locs ls hP hS hl
  exact va_tlen hx hb ((hxt.2.2.1.1 w hw8).2.2.2) hS rfl hd (k0 H locs ls hP hS hl)
theorem go_kle {g : gp} {i : mI} {pc : Nat} {ll : List (Option Value)} {st : List Value} {u : sg} {Q : Option Value → sg → Prop} {w : Nat} (hd : decode (mC i) pc = .ok (.arraylength, 1)) (hw8 : w < 8) (k0 : Go g i (pc + 1) (ll) (.int (nI (skL.getD w 0)) :: st) (u) Q) : Go g i (pc) (ll) (.ref (gv g w) :: st) (u) Q := fun p e s m args below meth c C => gx_kle C hd hw8 (k0 p e s m args below meth c C)
theorem gx_kld {g : gp} {i : mI} {p : Program} {e : Env} {R : Room} {s : State} {m : MethodId} {args : Array Value} {below : List Frame} {meth : Method} {c : Code} {cells slots : Nat} {Q : State → Prop} {pc : Nat} {ll : List (Option Value)} {st : List Value} {u : sg} {w : Nat} {j : Int32} (C : Cx g i p s m args meth c) (hd : decode (mC i) pc = .ok (.baload, 1)) (hw8 : w < 8) (hi : vp_in j (skL.getD w 0)) (k0 : Gx g i p e R s m args below meth c cells slots Q (pc + 1) (ll) (.int ((skB.getD w []).getD j.toNatClampNeg 0) :: st) (u)) : Gx g i p e R s m args below meth c cells slots Q (pc) (ll) (.int j :: .ref (gv g w) :: st) (u) := by
  obtain ⟨hx, hb, hml, hr, hlk, hown, hts, hK, hok, hxt⟩ := C
  intro H locs ls hP hS hl
  exact va_tb hx hb ((hxt.2.2.1.1 w hw8).2.2.2) hS hi rfl hd (k0 H locs ls hP hS hl)
theorem go_kld {g : gp} {i : mI} {pc : Nat} {ll : List (Option Value)} {st : List Value} {u : sg} {Q : Option Value → sg → Prop} {w : Nat} {j : Int32} (hd : decode (mC i) pc = .ok (.baload, 1)) (hw8 : w < 8) (hi : vp_in j (skL.getD w 0)) (k0 : Go g i (pc + 1) (ll) (.int ((skB.getD w []).getD j.toNatClampNeg 0) :: st) (u) Q) : Go g i (pc) (ll) (.int j :: .ref (gv g w) :: st) (u) Q := fun p e s m args below meth c C => gx_kld C hd hw8 hi (k0 p e s m args below meth c C)
theorem gx_kst {g : gp} {i : mI} {p : Program} {e : Env} {R : Room} {s : State} {m : MethodId} {args : Array Value} {below : List Frame} {meth : Method} {c : Code} {cells slots : Nat} {Q : State → Prop} {pc : Nat} {ll : List (Option Value)} {st : List Value} {u : sg} {n w : Nat} (C : Cx g i p s m args meth c) (hd : decode (mC i) pc = .ok (.ldc n, 2)) (hw8 : w < 8) (h1 : mO i = skO) (h2 : skI.getD w 0 = n) (k0 : Gx g i p e R s m args below meth c cells slots Q (pc + 2) (ll) (.ref (gk g w) :: st) (u)) : Gx g i p e R s m args below meth c cells slots Q (pc) (ll) (st) (u) := by
  obtain ⟨hx, hb, hml, hr, hlk, hown, hts, hK, hok, hxt⟩ := C
  intro H locs ls hP hS hl
  subst h2
  exact va_ldcS hx hb hown (h1 ▸ hxt.2.2.2.1 w hw8) hd (k0 H locs ls hP hS hl)
theorem go_kst {g : gp} {i : mI} {pc : Nat} {ll : List (Option Value)} {st : List Value} {u : sg} {Q : Option Value → sg → Prop} {n w : Nat} (hd : decode (mC i) pc = .ok (.ldc n, 2)) (hw8 : w < 8) (h1 : mO i = skO) (h2 : skI.getD w 0 = n) (k0 : Go g i (pc + 2) (ll) (.ref (gk g w) :: st) (u) Q) : Go g i (pc) (ll) (st) (u) Q := fun p e s m args below meth c C => gx_kst C hd hw8 h1 h2 (k0 p e s m args below meth c C)
theorem gx_cpy {g : gp} {i : mI} {p : Program} {e : Env} {R : Room} {s : State} {m : MethodId} {args : Array Value} {below : List Frame} {meth : Method} {c : Code} {cells slots : Nat} {Q : State → Prop} {pc : Nat} {ll : List (Option Value)} {st : List Value} {u : sg} {n : Nat} {a b na nb : Nat} {sp dp z : Int32} (C : Cx g i p s m args meth c) (hd : decode (mC i) pc = .ok (.invokestatic n, 3)) (hw : Cond.methodLink (mO i) n arraycopyName ∈ TB) (hls : mL i = mL i) (a1 : a < nW) (a2 : ¬ a < nO) (a3 : al a = na) (b1 : b < nW) (b2 : ¬ b < nO) (b3 : al b = nb) (c1 : ¬ sp < 0) (c2 : ¬ dp < 0) (c3 : ¬ z < 0) (c4 : sp.toNatClampNeg + z.toNatClampNeg ≤ na) (c5 : dp.toNatClampNeg + z.toNatClampNeg ≤ nb) (hR : 1 ≤ R.frames ∧ (st.map fun v => v.category).sum + (nativeFrameWords "java/lang/System" "arraycopy" 5 + 11) ≤ R.locals) (k0 : Gx g i p e R s m args below meth c cells slots Q (pc + 3) (ll) (st) (sF u b (va_cpy (u.2 a) (u.2 b) sp.toNatClampNeg dp.toNatClampNeg z.toNatClampNeg))) : Gx g i p e R s m args below meth c cells slots Q (pc) (ll) (.int z :: .int dp :: .ref (gd g b) :: .int sp :: .ref (gd g a) :: st) (u) := by
  obtain ⟨hx, hb, hml, hr, hlk, hown, hts, hK, hok, hxt⟩ := C
  intro H locs ls hP hS hl
  subst a3 b3
  refine va_copyi (D := gD g) (cl := vwCl) (tys := [(gA g, .int)]) (c0 := gA g) (c1 := gA g) (n0 := al a) (n1 := al b) (f := u.2 a) (g := u.2 b) (ty := .int) hx hb (by rw [hml, hl.1]) hown (hts _ hw) (hts _ qw_native) (hts _ qw_stac) (hts _ qi_J10) hK hP (wd_D hok u) hS a b 0 0 ?_ ?_ rfl rfl rfl c1 c2 c3 c4 c5 (fun _ _ => rfl) hR.1 hR.2 hd (fun H1 locs1 hP1 hD1 hS1 => ?_)
  · rw [wd_at a1]; simp [ce, a2]
  · rw [wd_at b1]; simp [ce, b2]
  · rw [wd_sF _ b1 b2] at hP1
    exact k0 H1 locs1 ls hP1 hS1 hl
theorem go_cpy {g : gp} {i : mI} {pc : Nat} {ll : List (Option Value)} {st : List Value} {u : sg} {Q : Option Value → sg → Prop} {n : Nat} {a b na nb : Nat} {sp dp z : Int32} (hd : decode (mC i) pc = .ok (.invokestatic n, 3)) (hw : Cond.methodLink (mO i) n arraycopyName ∈ TB) (hls : mL i = mL i) (a1 : a < nW) (a2 : ¬ a < nO) (a3 : al a = na) (b1 : b < nW) (b2 : ¬ b < nO) (b3 : al b = nb) (c1 : ¬ sp < 0) (c2 : ¬ dp < 0) (c3 : ¬ z < 0) (c4 : sp.toNatClampNeg + z.toNatClampNeg ≤ na) (c5 : dp.toNatClampNeg + z.toNatClampNeg ≤ nb) (hR : 1 ≤ (mM i).frames ∧ (st.map fun v => v.category).sum + (nativeFrameWords "java/lang/System" "arraycopy" 5 + 11) ≤ (mM i).locals) (k0 : Go g i (pc + 3) (ll) (st) (sF u b (va_cpy (u.2 a) (u.2 b) sp.toNatClampNeg dp.toNatClampNeg z.toNatClampNeg)) Q) : Go g i (pc) (ll) (.int z :: .int dp :: .ref (gd g b) :: .int sp :: .ref (gd g a) :: st) (u) Q := fun p e s m args below meth c C => gx_cpy C hd hw hls a1 a2 a3 b1 b2 b3 c1 c2 c3 c4 c5 hR (k0 p e s m args below meth c C)
end
section
/-! THE SMALL MACHINE: calls and returns -/
theorem tb_warm {args : Array Value} {s : State} (hts : ∀ w ∈ TB, w.before args s = true) {w : Cond} (hw : w ∈ TB) (a' : Array Value) (U : State) (hW : s.WarmedH U.vm) : w.before a' U = true := word_at hW (good_of_word (List.mem_filter.mp hw).2) (hts w hw)
def Pq (g : gp) (av : List Value) (u : sg) : Array Value → State → Prop := va_Pc av (fun U => va_P (gD g) vwCl (wd g u) U.heap ∧ va_K (gD g) vwCl [(gA g, .int)] U ∧ gOk g ∧ xt g U U.heap)
theorem pq_blind {g : gp} {av : List Value} {u : sg} : FrameBlind (Pq g av u) := fun a U f mk h => ⟨h.1, h.2.1, va_K.moved (u := U) (U := U.calling f mk a) (Vm.Alike.refl U.vm) h.2.2.1, h.2.2.2.1, xt.same (u := U) (U := U.calling f mk a) rfl h.2.2.2.2⟩
theorem go_met {g : gp} {i : mI} {u : sg} {ll : List (Option Value)} {av : List Value} {P : Option Value → sg → Prop} (hy : plainName (mY i).cls = true) (ho : mO i = (mY i).cls) (hl : en av ++ List.replicate (mL i - (en av).length) none = ll) (hn : (lg_sl av).length ≤ mL i) (k : Go g i 0 ll [] u P) :
    Met (gL g) (mY i) (.code (mY i) (mC i) (mL i) (mR i) :: TB) (mM i) (Pq g av u) (Qr g P) 0 0 (wA g) := by
  refine Met.ofW (cc := mC i) (maxL := mL i) (ret := mR i) hy rfl ?_
  intro p e s m args below meth c s₁ B hml hv
  obtain ⟨rfl, hP, hK, hok, hxt⟩ := hv
  have hts := atoms_spec (ws := .code (mY i) (mC i) (mL i) (mR i) :: TB) B.pre
  have hown : s.vm.findClass (mY i).cls = some m.cls := findClass_of_methodNamed B.named
  rw [lg_entry_eq]
  refine k p e s m _ below meth c ⟨B.exec, B.bytes, hml, B.returns, B.notSynchronized, by rw [ho]; exact hown, fun w hw => hts w (List.mem_cons_of_mem _ hw), hK, hok, hxt⟩ s.heap [] _ hP va_S.rf ?_
  have h := lv_entry av hn
  subst hl
  unfold lh
  rw [prs_none, en_args]
  exact h
section GC
variable {g : gp} {i : mI} {p : Program} {e : Env} {R : Room} {s : State} {m : MethodId} {args : Array Value} {below : List Frame} {meth : Method} {c : Code} {cells slots : Nat} {Q : State → Prop} {pc : Nat} {ll : List (Option Value)} {st : List Value} {u : sg}
theorem gx_after {H : Heap} {locs : List Loc} {ls : Array Slot} {st0 rest : List Value} {a : Array Value} {P : Option Value → sg → Prop} (hr : va_Run p (gL g) e R s m args below meth c H locs cells slots 0 0 (F0 m pc ls st0) rest (Qr g P a) (wA g)) (hS : va_S (wA g) s.heap H locs)
    (kk : ∀ (v : Option Value) (u1 : sg) (H1 : Heap) (locs1 : List Loc), P v u1 → va_P (gD g) vwCl (wd g u1) H1 → va_S (wA g) s.heap H1 locs1 → W p (gL g) e R s m args below meth c H1 locs1 cells slots Q (F0 m (pc + 3) ls (v.toList ++ rest))) : W p (gL g) e R s m args below meth c H locs cells slots Q (F0 m pc ls st0) := by
  intro T hT X
  obtain ⟨v, st₀, t, T', L, h0, X', hL, e1, e2, ⟨⟨v', u1, hv, hp, hb⟩, hz, hk⟩, st⟩ := hr T hT X
  cases hv
  rw [h0] at hz hk
  obtain ⟨t2, a1, b1⟩ := kk v u1 T'.heap (locs ++ L) hp (by rw [e1]; exact hb) ⟨Nat.le_trans hS.1 (by rw [e1]; exact hz), fun q h1 h2 => by rw [e1, hk q (Nat.lt_of_lt_of_le h1 hS.1) h2]; exact hS.2.1 q h1 h2, fun q hq => by
      rcases List.mem_append.mp hq with h | h
      · exact hS.2.2 q h
      · exact hL q h⟩ T' rfl X'
  exact ⟨t2, st t2 a1, b1⟩
/-- what the tables say of a method that is called: virtual, static -/
def mB (j : mI) (n : Nat) : Prop := plainName (mY j).cls = true ∧ mO j = (mY j).cls ∧ Cond.initialized (mY j).cls ∈ TB ∧ Cond.code (mY j) (mC j) (mL j) (mR j) ∈ TB ∧ (mM j).cells = 0 ∧ (mM j).slots = 0 ∧ ((mY j).cls ≠ "java/lang/invoke/MethodHandle" ∧ (mY j).cls ≠ "java/lang/invoke/VarHandle") ∧ (parseMethodDescriptor (mY j).desc).map (fun d => d.parameters.length) = some n
def mV (j : mI) (n : Nat) : Prop := mB j n ∧ Cond.instanceMethod (mY j) ∈ TB ∧ Cond.selects (mY j).cls (mY j) (mY j) ∈ TB
def mS (j : mI) (n : Nat) : Prop := mB j n ∧ Cond.static (mY j) ∈ TB
theorem pq_pre {H : Heap} {locs : List Loc} {av : List Value} (C : Cx g i p s m args meth c) (hP : va_P (gD g) vwCl (wd g u) H) (hS : va_S (wA g) s.heap H locs) : ∀ U : State, U.heap = H → s.WarmedH U.vm → Pq g av u av.toArray U := by
  obtain ⟨hx, hb, hml, hr, hlk, hown, hts, hK, hok, hxt⟩ := C
  intro U hU hW
  exact ⟨rfl, by rw [hU]; exact hP, va_K.moved hW.alike hK, hok, by rw [hU]; exact (hxt.kept hS.2.1).warm hW⟩
theorem cb_of {j : mI} {n k : Nat} (C : Cx g i p s m args meth c) (hj : mB j k) (hw : Cond.methodLink (mO i) n (mY j) ∈ TB) (hR : (mM j).frames + 1 ≤ R.frames ∧ 8 + (mL j + 11) + (mM j).locals ≤ R.locals) : CallB R s args (mO i) n (mY j) (mC j) (mL j) (mR j) (.code (mY j) (mC j) (mL j) (mR j) :: TB) (mM j) 0 0 k := by
  obtain ⟨hx, hb, hml, hr, hlk, hown, hts, hK, hok, hxt⟩ := C
  obtain ⟨j1, j2, j3, j4, j5, j6, j7, j8⟩ := hj
  refine ⟨j5, j6, hR.1, hR.2, fun w hw a' U hW => ?_, List.mem_cons_self, hts _ j4, hts _ j3, j7, fun sig h => ?_, hts _ hw⟩
  · rcases List.mem_cons.mp hw with rfl | h
    · exact tb_warm hts j4 a' U hW
    · exact tb_warm hts h a' U hW
  · rw [h] at j8
    exact (Option.some.inj j8).symm
theorem cn_of {j : mI} {n k : Nat} {host : String} (C : Cx g i p s m args meth c) (hj : mB j k) (hw : Cond.methodLinkNest (mO i) n (mY j) host ∈ nests) (hR : (mM j).frames + 1 ≤ R.frames ∧ 8 + (mL j + 11) + (mM j).locals ≤ R.locals) : va_CN R s args (mO i) n (mY j) host (mC j) (mL j) (mR j) (.code (mY j) (mC j) (mL j) (mR j) :: TB) (mM j) 0 0 k := by
  obtain ⟨hx, hb, hml, hr, hlk, hown, hts, hK, hok, hxt⟩ := C
  obtain ⟨j1, j2, j3, j4, j5, j6, j7, j8⟩ := hj
  refine ⟨⟨j5, j6, hR.1, hR.2, fun w hw a' U hW => ?_, List.mem_cons_self⟩, hts _ j4, hts _ j3, j7, fun sig h => ?_, va_Nw.use rfl (hxt.2.2.2.2 _ hw)⟩
  · rcases List.mem_cons.mp hw with rfl | h
    · exact tb_warm hts j4 a' U hW
    · exact tb_warm hts h a' U hW
  · rw [h] at j8
    exact (Option.some.inj j8).symm
theorem gx_callV {j : mI} {n o N k : Nat} {D : String} {T : u_T} {As st0 : List Value} {lc : List (Option Value)} {P : Option Value → sg → Prop} (C : Cx g i p s m args meth c) (hd : decode (mC i) pc = .ok (.invokevirtual n, 3)) (hj : mV j k) (hD : (mY j).cls = D) (ho : obF o D T N) (hw : Cond.methodLink (mO i) n (mY j) ∈ TB) (hs : st0 = As.reverse ++ .ref (gd g o) :: st) (hst : (st.map fun v => v.category).sum ≤ 8) (hk : As.length = k)
    (hR : (mM j).frames + 1 ≤ R.frames ∧ 8 + (mL j + 11) + (mM j).locals ≤ R.locals) (hcs : cells ≤ R.cells ∧ slots ≤ R.slots) (he : en (.ref (gd g o) :: As) ++ List.replicate (mL j - (en (.ref (gd g o) :: As)).length) none = lc) (hn : (lg_sl (.ref (gd g o) :: As)).length ≤ mL j) (h : Go g j 0 lc [] u P)
    (kk : ∀ (v : Option Value) (u1 : sg), P v u1 → Gx g i p e R s m args below meth c cells slots Q (pc + 3) ll (v.toList ++ st) u1) : Gx g i p e R s m args below meth c cells slots Q pc ll st0 u := by
  subst hs
  subst hD
  intro H locs ls hP hS hl
  obtain ⟨o1, o2, o3, o4, o5, ty, o6⟩ := ho
  have hoW : o < nW := Nat.lt_trans o3 (by decide)
  have C' := C
  obtain ⟨hx, hb, hml, hr, hlk, hown, hts, hK, hok, hxt⟩ := C
  obtain ⟨hB, j9, j10⟩ := hj
  refine gx_after (P := P) (va_runV (As := As) (rest := st) (b := gd g o) (Ts := TB) ⟨hx, hb, hml, hown, hts⟩ (go_met hB.1 hB.2.1 he hn h) (n := k) ⟨cb_of C' hB hw hR, hts _ j9, hts _ j10⟩ ⟨pq_blind, va_recv hK hP (ci := ocL.getD o 0) (q0 := o) (fs := fs g u o) o2 (by rw [wd_at hoW]; simp [ce, o3]), pq_pre C' hP hS⟩ rfl hk hl.1 rfl (lv_room hst) hd hcs) hS (fun v u1 H1 locs1 hp hP1 hS1 => kk v u1 hp H1 locs1 ls hP1 hS1 hl)
theorem gx_callS {j : mI} {n k : Nat} {As st0 : List Value} {lc : List (Option Value)} {P : Option Value → sg → Prop} (C : Cx g i p s m args meth c) (hd : decode (mC i) pc = .ok (.invokestatic n, 3)) (hj : mS j k) (hw : Cond.methodLink (mO i) n (mY j) ∈ TB) (hs : st0 = As.reverse ++ st) (hst : (st.map fun v => v.category).sum ≤ 8) (hk : As.length = k)
    (hR : (mM j).frames + 1 ≤ R.frames ∧ 8 + (mL j + 11) + (mM j).locals ≤ R.locals) (hcs : cells ≤ R.cells ∧ slots ≤ R.slots) (he : en As ++ List.replicate (mL j - (en As).length) none = lc) (hn : (lg_sl As).length ≤ mL j) (h : Go g j 0 lc [] u P)
    (kk : ∀ (v : Option Value) (u1 : sg), P v u1 → Gx g i p e R s m args below meth c cells slots Q (pc + 3) ll (v.toList ++ st) u1) : Gx g i p e R s m args below meth c cells slots Q pc ll st0 u := by
  subst hs
  intro H locs ls hP hS hl
  have C' := C
  obtain ⟨hx, hb, hml, hr, hlk, hown, hts, hK, hok, hxt⟩ := C
  obtain ⟨hB, j9⟩ := hj
  exact gx_after (P := P) (va_runS (As := As) (rest := st) (Ts := TB) ⟨hx, hb, hml, hown, hts⟩ (go_met hB.1 hB.2.1 he hn h) (n := k) ⟨cb_of C' hB hw hR, hts _ j9⟩ ⟨pq_blind, pq_pre C' hP hS⟩ rfl hk hl.1 rfl (lv_room hst) hd hcs) hS (fun v u1 H1 locs1 hp hP1 hS1 => kk v u1 hp H1 locs1 ls hP1 hS1 hl)
theorem gx_callN {j : mI} {n k : Nat} {host : String} {As st0 : List Value} {lc : List (Option Value)} {P : Option Value → sg → Prop} (C : Cx g i p s m args meth c) (hd : decode (mC i) pc = .ok (.invokestatic n, 3)) (hj : mS j k) (hw : Cond.methodLinkNest (mO i) n (mY j) host ∈ nests) (hs : st0 = As.reverse ++ st) (hst : (st.map fun v => v.category).sum ≤ 8) (hk : As.length = k)
    (hR : (mM j).frames + 1 ≤ R.frames ∧ 8 + (mL j + 11) + (mM j).locals ≤ R.locals) (hcs : cells ≤ R.cells ∧ slots ≤ R.slots) (he : en As ++ List.replicate (mL j - (en As).length) none = lc) (hn : (lg_sl As).length ≤ mL j) (h : Go g j 0 lc [] u P)
    (kk : ∀ (v : Option Value) (u1 : sg), P v u1 → Gx g i p e R s m args below meth c cells slots Q (pc + 3) ll (v.toList ++ st) u1) : Gx g i p e R s m args below meth c cells slots Q pc ll st0 u := by
  subst hs
  intro H locs ls hP hS hl
  have C' := C
  obtain ⟨hx, hb, hml, hr, hlk, hown, hts, hK, hok, hxt⟩ := C
  obtain ⟨hB, j9⟩ := hj
  exact gx_after (P := P) (va_runSN (As := As) (rest := st) (Ts := TB) ⟨hx, hb, hml, hown, hts⟩ (go_met hB.1 hB.2.1 he hn h) (n := k) ⟨cn_of C' hB hw hR, hts _ j9, trivial⟩ ⟨pq_blind, pq_pre C' hP hS⟩ rfl hk hl.1 rfl (lv_room hst) hd hcs) hS (fun v u1 H1 locs1 hp hP1 hS1 => kk v u1 hp H1 locs1 ls hP1 hS1 hl)
/-- a String's method, of a text -/
theorem gx_callK {j : mI} {n w k : Nat} {As st0 : List Value} {lc : List (Option Value)} {P : Option Value → sg → Prop} (C : Cx g i p s m args meth c) (hd : decode (mC i) pc = .ok (.invokevirtual n, 3)) (hj : mV j k) (hD : (mY j).cls = "java/lang/String") (hw8 : w < 8) (hw : Cond.methodLink (mO i) n (mY j) ∈ TB) (hs : st0 = As.reverse ++ .ref (gk g w) :: st) (hst : (st.map fun v => v.category).sum ≤ 8) (hk : As.length = k)
    (hR : (mM j).frames + 1 ≤ R.frames ∧ 8 + (mL j + 11) + (mM j).locals ≤ R.locals) (hcs : cells ≤ R.cells ∧ slots ≤ R.slots) (he : en (.ref (gk g w) :: As) ++ List.replicate (mL j - (en (.ref (gk g w) :: As)).length) none = lc) (hn : (lg_sl (.ref (gk g w) :: As)).length ≤ mL j) (h : Go g j 0 lc [] u P)
    (kk : ∀ (v : Option Value) (u1 : sg), P v u1 → Gx g i p e R s m args below meth c cells slots Q (pc + 3) ll (v.toList ++ st) u1) : Gx g i p e R s m args below meth c cells slots Q pc ll st0 u := by
  subst hs
  intro H locs ls hP hS hl
  have C' := C
  obtain ⟨hx, hb, hml, hr, hlk, hown, hts, hK, hok, hxt⟩ := C
  obtain ⟨hB, j9, j10⟩ := hj
  refine gx_after (P := P) (va_runV (As := As) (rest := st) (b := gk g w) (Ts := TB) ⟨hx, hb, hml, hown, hts⟩ (go_met hB.1 hB.2.1 he hn h) (n := k) ⟨cb_of C' hB hw hR, hts _ j9, hts _ j10⟩ ⟨pq_blind, by rw [hD]; exact vk_recv hxt.2.2.1 hw8 hS, pq_pre C' hP hS⟩ rfl hk hl.1 rfl (lv_room hst) hd hcs) hS (fun v u1 H1 locs1 hp hP1 hS1 => kk v u1 hp H1 locs1 ls hP1 hS1 hl)
end GC
/-! returns -/
theorem go_iret {g : gp} {i : mI} {pc : Nat} {ll : List (Option Value)} {u : sg} {Q : Option Value → sg → Prop} {x : Int32} (hd : decode (mC i) pc = .ok (.ireturn, 1)) (hr : mR i = some .int) (hq : Q (some (.int x)) u) : Go g i pc ll [.int x] u Q := by
  intro p e s m args below meth c C H locs ls hP hS hl
  obtain ⟨hx, hb, hml, hr2, hlk, hown, hts, hK, hok, hxt⟩ := C
  exact W.iret hx hb (hr2.trans hr) (fun t ht hW => ⟨⟨some (.int x), u, rfl, hq, by rw [ht]; exact hP⟩, hS.F ht⟩) hS.2.2 hd hlk
theorem go_zret {g : gp} {i : mI} {pc : Nat} {ll : List (Option Value)} {u : sg} {Q : Option Value → sg → Prop} {x : Int32} {ty : FieldType} (hd : decode (mC i) pc = .ok (.ireturn, 1)) (hr : mR i = some ty) (hn : narrow ty (.int x) = .int x) (hq : Q (some (.int x)) u) : Go g i pc ll [.int x] u Q := by
  intro p e s m args below meth c C H locs ls hP hS hl
  obtain ⟨hx, hb, hml, hr2, hlk, hown, hts, hK, hok, hxt⟩ := C
  exact W.zret hx hb (hr2.trans hr) hn (fun t ht hW => ⟨⟨some (.int x), u, rfl, hq, by rw [ht]; exact hP⟩, hS.F ht⟩) hS.2.2 hd hlk
theorem go_lret {g : gp} {i : mI} {pc : Nat} {ll : List (Option Value)} {u : sg} {Q : Option Value → sg → Prop} {x : Int64} (hd : decode (mC i) pc = .ok (.lreturn, 1)) (hr : mR i = some .long) (hq : Q (some (.long x)) u) : Go g i pc ll [.long x] u Q := by
  intro p e s m args below meth c C H locs ls hP hS hl
  obtain ⟨hx, hb, hml, hr2, hlk, hown, hts, hK, hok, hxt⟩ := C
  exact W.lret hx hb (hr2.trans hr) (fun t ht hW => ⟨⟨some (.long x), u, rfl, hq, by rw [ht]; exact hP⟩, hS.F ht⟩) hS.2.2 hd hlk
theorem go_vret {g : gp} {i : mI} {pc : Nat} {ll : List (Option Value)} {u : sg} {Q : Option Value → sg → Prop} (hd : decode (mC i) pc = .ok (.return_, 1)) (hr : mR i = none) (hq : Q none u) : Go g i pc ll [] u Q := by
  intro p e s m args below meth c C H locs ls hP hS hl
  obtain ⟨hx, hb, hml, hr2, hlk, hown, hts, hK, hok, hxt⟩ := C
  exact W.vret hx hb (hr2.trans hr) (fun t ht hW => ⟨⟨none, u, rfl, hq, by rw [ht]; exact hP⟩, hS.F ht⟩) hS.2.2 hd hlk
/-! calls, by what comes back -/
theorem go_cVi {g : gp} {i : mI} {pc : Nat} {ll : List (Option Value)} {st : List Value} {u : sg} {Q : Option Value → sg → Prop} {j : mI} {n o N k : Nat} {D : String} {T : u_T} {As st0 : List Value} {lc : List (Option Value)} {P : Int32 → sg → Prop} (hd : decode (mC i) pc = .ok (.invokevirtual n, 3)) (hj : mV j k) (hD : (mY j).cls = D) (ho : obF o D T N) (hw : Cond.methodLink (mO i) n (mY j) ∈ TB) (hs : st0 = As.reverse ++ .ref (gd g o) :: st) (hst : (st.map fun v => v.category).sum ≤ 8) (hk : As.length = k) (hR : (mM j).frames + 1 ≤ (mM i).frames ∧ 8 + (mL j + 11) + (mM j).locals ≤ (mM i).locals) (he : en (.ref (gd g o) :: As) ++ List.replicate (mL j - (en (.ref (gd g o) :: As)).length) none = lc) (hn : (lg_sl (.ref (gd g o) :: As)).length ≤ mL j) (h : Go g j 0 lc [] u (QI P)) (kk : ∀ (r : Int32) (u1 : sg), P r u1 → Go g i (pc + 3) ll (.int r :: st) u1 Q) : Go g i pc ll st0 u Q := fun p e s m args below meth c C => gx_callV C hd hj hD ho hw hs hst hk hR ⟨Nat.zero_le _, Nat.zero_le _⟩ he hn h (fun v u1 hp => by obtain ⟨r, rfl, hp⟩ := hp; exact kk r u1 hp p e s m args below meth c C)
theorem go_cVl {g : gp} {i : mI} {pc : Nat} {ll : List (Option Value)} {st : List Value} {u : sg} {Q : Option Value → sg → Prop} {j : mI} {n o N k : Nat} {D : String} {T : u_T} {As st0 : List Value} {lc : List (Option Value)} {P : Int64 → sg → Prop} (hd : decode (mC i) pc = .ok (.invokevirtual n, 3)) (hj : mV j k) (hD : (mY j).cls = D) (ho : obF o D T N) (hw : Cond.methodLink (mO i) n (mY j) ∈ TB) (hs : st0 = As.reverse ++ .ref (gd g o) :: st) (hst : (st.map fun v => v.category).sum ≤ 8) (hk : As.length = k) (hR : (mM j).frames + 1 ≤ (mM i).frames ∧ 8 + (mL j + 11) + (mM j).locals ≤ (mM i).locals) (he : en (.ref (gd g o) :: As) ++ List.replicate (mL j - (en (.ref (gd g o) :: As)).length) none = lc) (hn : (lg_sl (.ref (gd g o) :: As)).length ≤ mL j) (h : Go g j 0 lc [] u (QL P)) (kk : ∀ (r : Int64) (u1 : sg), P r u1 → Go g i (pc + 3) ll (.long r :: st) u1 Q) : Go g i pc ll st0 u Q := fun p e s m args below meth c C => gx_callV C hd hj hD ho hw hs hst hk hR ⟨Nat.zero_le _, Nat.zero_le _⟩ he hn h (fun v u1 hp => by obtain ⟨r, rfl, hp⟩ := hp; exact kk r u1 hp p e s m args below meth c C)
theorem go_cVv {g : gp} {i : mI} {pc : Nat} {ll : List (Option Value)} {st : List Value} {u : sg} {Q : Option Value → sg → Prop} {j : mI} {n o N k : Nat} {D : String} {T : u_T} {As st0 : List Value} {lc : List (Option Value)} {P : sg → Prop} (hd : decode (mC i) pc = .ok (.invokevirtual n, 3)) (hj : mV j k) (hD : (mY j).cls = D) (ho : obF o D T N) (hw : Cond.methodLink (mO i) n (mY j) ∈ TB) (hs : st0 = As.reverse ++ .ref (gd g o) :: st) (hst : (st.map fun v => v.category).sum ≤ 8) (hk : As.length = k) (hR : (mM j).frames + 1 ≤ (mM i).frames ∧ 8 + (mL j + 11) + (mM j).locals ≤ (mM i).locals) (he : en (.ref (gd g o) :: As) ++ List.replicate (mL j - (en (.ref (gd g o) :: As)).length) none = lc) (hn : (lg_sl (.ref (gd g o) :: As)).length ≤ mL j) (h : Go g j 0 lc [] u (QV P)) (kk : ∀ (u1 : sg), P u1 → Go g i (pc + 3) ll st u1 Q) : Go g i pc ll st0 u Q := fun p e s m args below meth c C => gx_callV C hd hj hD ho hw hs hst hk hR ⟨Nat.zero_le _, Nat.zero_le _⟩ he hn h (fun v u1 hp => by obtain ⟨rfl, hp⟩ := hp; exact kk u1 hp p e s m args below meth c C)
theorem go_cKi {g : gp} {i : mI} {pc : Nat} {ll : List (Option Value)} {st : List Value} {u : sg} {Q : Option Value → sg → Prop} {j : mI} {n w k : Nat} {As st0 : List Value} {lc : List (Option Value)} {P : Int32 → sg → Prop} (hd : decode (mC i) pc = .ok (.invokevirtual n, 3)) (hj : mV j k) (hD : (mY j).cls = "java/lang/String") (hw8 : w < 8) (hw : Cond.methodLink (mO i) n (mY j) ∈ TB) (hs : st0 = As.reverse ++ .ref (gk g w) :: st) (hst : (st.map fun v => v.category).sum ≤ 8) (hk : As.length = k) (hR : (mM j).frames + 1 ≤ (mM i).frames ∧ 8 + (mL j + 11) + (mM j).locals ≤ (mM i).locals) (he : en (.ref (gk g w) :: As) ++ List.replicate (mL j - (en (.ref (gk g w) :: As)).length) none = lc) (hn : (lg_sl (.ref (gk g w) :: As)).length ≤ mL j) (h : Go g j 0 lc [] u (QI P)) (kk : ∀ (r : Int32) (u1 : sg), P r u1 → Go g i (pc + 3) ll (.int r :: st) u1 Q) : Go g i pc ll st0 u Q := fun p e s m args below meth c C => gx_callK C hd hj hD hw8 hw hs hst hk hR ⟨Nat.zero_le _, Nat.zero_le _⟩ he hn h (fun v u1 hp => by obtain ⟨r, rfl, hp⟩ := hp; exact kk r u1 hp p e s m args below meth c C)
theorem go_cKl {g : gp} {i : mI} {pc : Nat} {ll : List (Option Value)} {st : List Value} {u : sg} {Q : Option Value → sg → Prop} {j : mI} {n w k : Nat} {As st0 : List Value} {lc : List (Option Value)} {P : Int64 → sg → Prop} (hd : decode (mC i) pc = .ok (.invokevirtual n, 3)) (hj : mV j k) (hD : (mY j).cls = "java/lang/String") (hw8 : w < 8) (hw : Cond.methodLink (mO i) n (mY j) ∈ TB) (hs : st0 = As.reverse ++ .ref (gk g w) :: st) (hst : (st.map fun v => v.category).sum ≤ 8) (hk : As.length = k) (hR : (mM j).frames + 1 ≤ (mM i).frames ∧ 8 + (mL j + 11) + (mM j).locals ≤ (mM i).locals) (he : en (.ref (gk g w) :: As) ++ List.replicate (mL j - (en (.ref (gk g w) :: As)).length) none = lc) (hn : (lg_sl (.ref (gk g w) :: As)).length ≤ mL j) (h : Go g j 0 lc [] u (QL P)) (kk : ∀ (r : Int64) (u1 : sg), P r u1 → Go g i (pc + 3) ll (.long r :: st) u1 Q) : Go g i pc ll st0 u Q := fun p e s m args below meth c C => gx_callK C hd hj hD hw8 hw hs hst hk hR ⟨Nat.zero_le _, Nat.zero_le _⟩ he hn h (fun v u1 hp => by obtain ⟨r, rfl, hp⟩ := hp; exact kk r u1 hp p e s m args below meth c C)
theorem go_cKv {g : gp} {i : mI} {pc : Nat} {ll : List (Option Value)} {st : List Value} {u : sg} {Q : Option Value → sg → Prop} {j : mI} {n w k : Nat} {As st0 : List Value} {lc : List (Option Value)} {P : sg → Prop} (hd : decode (mC i) pc = .ok (.invokevirtual n, 3)) (hj : mV j k) (hD : (mY j).cls = "java/lang/String") (hw8 : w < 8) (hw : Cond.methodLink (mO i) n (mY j) ∈ TB) (hs : st0 = As.reverse ++ .ref (gk g w) :: st) (hst : (st.map fun v => v.category).sum ≤ 8) (hk : As.length = k) (hR : (mM j).frames + 1 ≤ (mM i).frames ∧ 8 + (mL j + 11) + (mM j).locals ≤ (mM i).locals) (he : en (.ref (gk g w) :: As) ++ List.replicate (mL j - (en (.ref (gk g w) :: As)).length) none = lc) (hn : (lg_sl (.ref (gk g w) :: As)).length ≤ mL j) (h : Go g j 0 lc [] u (QV P)) (kk : ∀ (u1 : sg), P u1 → Go g i (pc + 3) ll st u1 Q) : Go g i pc ll st0 u Q := fun p e s m args below meth c C => gx_callK C hd hj hD hw8 hw hs hst hk hR ⟨Nat.zero_le _, Nat.zero_le _⟩ he hn h (fun v u1 hp => by obtain ⟨rfl, hp⟩ := hp; exact kk u1 hp p e s m args below meth c C)
theorem go_cSi {g : gp} {i : mI} {pc : Nat} {ll : List (Option Value)} {st : List Value} {u : sg} {Q : Option Value → sg → Prop} {j : mI} {n k : Nat} {As st0 : List Value} {lc : List (Option Value)} {P : Int32 → sg → Prop} (hd : decode (mC i) pc = .ok (.invokestatic n, 3)) (hj : mS j k) (hw : Cond.methodLink (mO i) n (mY j) ∈ TB) (hs : st0 = As.reverse ++ st) (hst : (st.map fun v => v.category).sum ≤ 8) (hk : As.length = k) (hR : (mM j).frames + 1 ≤ (mM i).frames ∧ 8 + (mL j + 11) + (mM j).locals ≤ (mM i).locals) (he : en (As) ++ List.replicate (mL j - (en (As)).length) none = lc) (hn : (lg_sl (As)).length ≤ mL j) (h : Go g j 0 lc [] u (QI P)) (kk : ∀ (r : Int32) (u1 : sg), P r u1 → Go g i (pc + 3) ll (.int r :: st) u1 Q) : Go g i pc ll st0 u Q := fun p e s m args below meth c C => gx_callS C hd hj hw hs hst hk hR ⟨Nat.zero_le _, Nat.zero_le _⟩ he hn h (fun v u1 hp => by obtain ⟨r, rfl, hp⟩ := hp; exact kk r u1 hp p e s m args below meth c C)
theorem go_cSl {g : gp} {i : mI} {pc : Nat} {ll : List (Option Value)} {st : List Value} {u : sg} {Q : Option Value → sg → Prop} {j : mI} {n k : Nat} {As st0 : List Value} {lc : List (Option Value)} {P : Int64 → sg → Prop} (hd : decode (mC i) pc = .ok (.invokestatic n, 3)) (hj : mS j k) (hw : Cond.methodLink (mO i) n (mY j) ∈ TB) (hs : st0 = As.reverse ++ st) (hst : (st.map fun v => v.category).sum ≤ 8) (hk : As.length = k) (hR : (mM j).frames + 1 ≤ (mM i).frames ∧ 8 + (mL j + 11) + (mM j).locals ≤ (mM i).locals) (he : en (As) ++ List.replicate (mL j - (en (As)).length) none = lc) (hn : (lg_sl (As)).length ≤ mL j) (h : Go g j 0 lc [] u (QL P)) (kk : ∀ (r : Int64) (u1 : sg), P r u1 → Go g i (pc + 3) ll (.long r :: st) u1 Q) : Go g i pc ll st0 u Q := fun p e s m args below meth c C => gx_callS C hd hj hw hs hst hk hR ⟨Nat.zero_le _, Nat.zero_le _⟩ he hn h (fun v u1 hp => by obtain ⟨r, rfl, hp⟩ := hp; exact kk r u1 hp p e s m args below meth c C)
theorem go_cSv {g : gp} {i : mI} {pc : Nat} {ll : List (Option Value)} {st : List Value} {u : sg} {Q : Option Value → sg → Prop} {j : mI} {n k : Nat} {As st0 : List Value} {lc : List (Option Value)} {P : sg → Prop} (hd : decode (mC i) pc = .ok (.invokestatic n, 3)) (hj : mS j k) (hw : Cond.methodLink (mO i) n (mY j) ∈ TB) (hs : st0 = As.reverse ++ st) (hst : (st.map fun v => v.category).sum ≤ 8) (hk : As.length = k) (hR : (mM j).frames + 1 ≤ (mM i).frames ∧ 8 + (mL j + 11) + (mM j).locals ≤ (mM i).locals) (he : en (As) ++ List.replicate (mL j - (en (As)).length) none = lc) (hn : (lg_sl (As)).length ≤ mL j) (h : Go g j 0 lc [] u (QV P)) (kk : ∀ (u1 : sg), P u1 → Go g i (pc + 3) ll st u1 Q) : Go g i pc ll st0 u Q := fun p e s m args below meth c C => gx_callS C hd hj hw hs hst hk hR ⟨Nat.zero_le _, Nat.zero_le _⟩ he hn h (fun v u1 hp => by obtain ⟨rfl, hp⟩ := hp; exact kk u1 hp p e s m args below meth c C)
theorem go_cNi {g : gp} {i : mI} {pc : Nat} {ll : List (Option Value)} {st : List Value} {u : sg} {Q : Option Value → sg → Prop} {j : mI} {n k : Nat} {host : String} {As st0 : List Value} {lc : List (Option Value)} {P : Int32 → sg → Prop} (hd : decode (mC i) pc = .ok (.invokestatic n, 3)) (hj : mS j k) (hw : Cond.methodLinkNest (mO i) n (mY j) host ∈ nests) (hs : st0 = As.reverse ++ st) (hst : (st.map fun v => v.category).sum ≤ 8) (hk : As.length = k) (hR : (mM j).frames + 1 ≤ (mM i).frames ∧ 8 + (mL j + 11) + (mM j).locals ≤ (mM i).locals) (he : en (As) ++ List.replicate (mL j - (en (As)).length) none = lc) (hn : (lg_sl (As)).length ≤ mL j) (h : Go g j 0 lc [] u (QI P)) (kk : ∀ (r : Int32) (u1 : sg), P r u1 → Go g i (pc + 3) ll (.int r :: st) u1 Q) : Go g i pc ll st0 u Q := fun p e s m args below meth c C => gx_callN C hd hj hw hs hst hk hR ⟨Nat.zero_le _, Nat.zero_le _⟩ he hn h (fun v u1 hp => by obtain ⟨r, rfl, hp⟩ := hp; exact kk r u1 hp p e s m args below meth c C)
theorem go_cNl {g : gp} {i : mI} {pc : Nat} {ll : List (Option Value)} {st : List Value} {u : sg} {Q : Option Value → sg → Prop} {j : mI} {n k : Nat} {host : String} {As st0 : List Value} {lc : List (Option Value)} {P : Int64 → sg → Prop} (hd : decode (mC i) pc = .ok (.invokestatic n, 3)) (hj : mS j k) (hw : Cond.methodLinkNest (mO i) n (mY j) host ∈ nests) (hs : st0 = As.reverse ++ st) (hst : (st.map fun v => v.category).sum ≤ 8) (hk : As.length = k) (hR : (mM j).frames + 1 ≤ (mM i).frames ∧ 8 + (mL j + 11) + (mM j).locals ≤ (mM i).locals) (he : en (As) ++ List.replicate (mL j - (en (As)).length) none = lc) (hn : (lg_sl (As)).length ≤ mL j) (h : Go g j 0 lc [] u (QL P)) (kk : ∀ (r : Int64) (u1 : sg), P r u1 → Go g i (pc + 3) ll (.long r :: st) u1 Q) : Go g i pc ll st0 u Q := fun p e s m args below meth c C => gx_callN C hd hj hw hs hst hk hR ⟨Nat.zero_le _, Nat.zero_le _⟩ he hn h (fun v u1 hp => by obtain ⟨r, rfl, hp⟩ := hp; exact kk r u1 hp p e s m args below meth c C)
theorem go_cNv {g : gp} {i : mI} {pc : Nat} {ll : List (Option Value)} {st : List Value} {u : sg} {Q : Option Value → sg → Prop} {j : mI} {n k : Nat} {host : String} {As st0 : List Value} {lc : List (Option Value)} {P : sg → Prop} (hd : decode (mC i) pc = .ok (.invokestatic n, 3)) (hj : mS j k) (hw : Cond.methodLinkNest (mO i) n (mY j) host ∈ nests) (hs : st0 = As.reverse ++ st) (hst : (st.map fun v => v.category).sum ≤ 8) (hk : As.length = k) (hR : (mM j).frames + 1 ≤ (mM i).frames ∧ 8 + (mL j + 11) + (mM j).locals ≤ (mM i).locals) (he : en (As) ++ List.replicate (mL j - (en (As)).length) none = lc) (hn : (lg_sl (As)).length ≤ mL j) (h : Go g j 0 lc [] u (QV P)) (kk : ∀ (u1 : sg), P u1 → Go g i (pc + 3) ll st u1 Q) : Go g i pc ll st0 u Q := fun p e s m args below meth c C => gx_callN C hd hj hw hs hst hk hR ⟨Nat.zero_le _, Nat.zero_le _⟩ he hn h (fun v u1 hp => by obtain ⟨rfl, hp⟩ := hp; exact kk u1 hp p e s m args below meth c C)
theorem me_X0_sizeOf : mV iX0_sizeOf 2 := ⟨⟨by decide +kernel, rfl, qi_X0, qo_X0_sizeOf, rfl, rfl, ⟨by decide +kernel, by decide +kernel⟩, by decide +kernel⟩, qv_X0_sizeOf, qe_X0_sizeOf⟩
theorem me_X0_markOf : mV iX0_markOf 2 := ⟨⟨by decide +kernel, rfl, qi_X0, qo_X0_markOf, rfl, rfl, ⟨by decide +kernel, by decide +kernel⟩, by decide +kernel⟩, qv_X0_markOf, qe_X0_markOf⟩
theorem me_X0_lentSize : mV iX0_lentSize 1 := ⟨⟨by decide +kernel, rfl, qi_X0, qo_X0_lentSize, rfl, rfl, ⟨by decide +kernel, by decide +kernel⟩, by decide +kernel⟩, qv_X0_lentSize, qe_X0_lentSize⟩
theorem me_X0_tollSize : mV iX0_tollSize 1 := ⟨⟨by decide +kernel, rfl, qi_X0, qo_X0_tollSize, rfl, rfl, ⟨by decide +kernel, by decide +kernel⟩, by decide +kernel⟩, qv_X0_tollSize, qe_X0_tollSize⟩
theorem me_X0_healthSize : mV iX0_healthSize 2 := ⟨⟨by decide +kernel, rfl, qi_X0, qo_X0_healthSize, rfl, rfl, ⟨by decide +kernel, by decide +kernel⟩, by decide +kernel⟩, qv_X0_healthSize, qe_X0_healthSize⟩
theorem me_X0_forgedSize : mV iX0_forgedSize 1 := ⟨⟨by decide +kernel, rfl, qi_X0, qo_X0_forgedSize, rfl, rfl, ⟨by decide +kernel, by decide +kernel⟩, by decide +kernel⟩, qv_X0_forgedSize, qe_X0_forgedSize⟩
theorem me_X0_nightSize : mV iX0_nightSize 1 := ⟨⟨by decide +kernel, rfl, qi_X0, qo_X0_nightSize, rfl, rfl, ⟨by decide +kernel, by decide +kernel⟩, by decide +kernel⟩, qv_X0_nightSize, qe_X0_nightSize⟩
theorem me_X0_lentMark : mV iX0_lentMark 1 := ⟨⟨by decide +kernel, rfl, qi_X0, qo_X0_lentMark, rfl, rfl, ⟨by decide +kernel, by decide +kernel⟩, by decide +kernel⟩, qv_X0_lentMark, qe_X0_lentMark⟩
theorem me_X0_healthMark : mV iX0_healthMark 1 := ⟨⟨by decide +kernel, rfl, qi_X0, qo_X0_healthMark, rfl, rfl, ⟨by decide +kernel, by decide +kernel⟩, by decide +kernel⟩, qv_X0_healthMark, qe_X0_healthMark⟩
theorem me_X0_forgedMark : mV iX0_forgedMark 1 := ⟨⟨by decide +kernel, rfl, qi_X0, qo_X0_forgedMark, rfl, rfl, ⟨by decide +kernel, by decide +kernel⟩, by decide +kernel⟩, qv_X0_forgedMark, qe_X0_forgedMark⟩
theorem me_X0_nightMark : mV iX0_nightMark 1 := ⟨⟨by decide +kernel, rfl, qi_X0, qo_X0_nightMark, rfl, rfl, ⟨by decide +kernel, by decide +kernel⟩, by decide +kernel⟩, qv_X0_nightMark, qe_X0_nightMark⟩
theorem me_X0_leave : mV iX0_leave 1 := ⟨⟨by decide +kernel, rfl, qi_X0, qo_X0_leave, rfl, rfl, ⟨by decide +kernel, by decide +kernel⟩, by decide +kernel⟩, qv_X0_leave, qe_X0_leave⟩
theorem me_X1_isTopic : mS iX1_isTopic 1 := ⟨⟨by decide +kernel, rfl, qi_X1, qo_X1_isTopic, rfl, rfl, ⟨by decide +kernel, by decide +kernel⟩, by decide +kernel⟩, qt_X1_isTopic⟩
theorem me_X1_inForce : mV iX1_inForce 2 := ⟨⟨by decide +kernel, rfl, qi_X1, qo_X1_inForce, rfl, rfl, ⟨by decide +kernel, by decide +kernel⟩, by decide +kernel⟩, qv_X1_inForce, qe_X1_inForce⟩
theorem me_X1_beginDraft : mV iX1_beginDraft 0 := ⟨⟨by decide +kernel, rfl, qi_X1, qo_X1_beginDraft, rfl, rfl, ⟨by decide +kernel, by decide +kernel⟩, by decide +kernel⟩, qv_X1_beginDraft, qe_X1_beginDraft⟩
theorem me_X1_isDraftFull : mV iX1_isDraftFull 0 := ⟨⟨by decide +kernel, rfl, qi_X1, qo_X1_isDraftFull, rfl, rfl, ⟨by decide +kernel, by decide +kernel⟩, by decide +kernel⟩, qv_X1_isDraftFull, qe_X1_isDraftFull⟩
theorem me_X1_draft : mV iX1_draft 3 := ⟨⟨by decide +kernel, rfl, qi_X1, qo_X1_draft, rfl, rfl, ⟨by decide +kernel, by decide +kernel⟩, by decide +kernel⟩, qv_X1_draft, qe_X1_draft⟩
theorem me_X1_passDraft : mV iX1_passDraft 0 := ⟨⟨by decide +kernel, rfl, qi_X1, qo_X1_passDraft, rfl, rfl, ⟨by decide +kernel, by decide +kernel⟩, by decide +kernel⟩, qv_X1_passDraft, qe_X1_passDraft⟩
theorem me_X2_addCart : mV iX2_addCart 3 := ⟨⟨by decide +kernel, rfl, qi_X2, qo_X2_addCart, rfl, rfl, ⟨by decide +kernel, by decide +kernel⟩, by decide +kernel⟩, qv_X2_addCart, qe_X2_addCart⟩
theorem me_X2_owedAt : mV iX2_owedAt 3 := ⟨⟨by decide +kernel, rfl, qi_X2, qo_X2_owedAt, rfl, rfl, ⟨by decide +kernel, by decide +kernel⟩, by decide +kernel⟩, qv_X2_owedAt, qe_X2_owedAt⟩
theorem me_X2_leastGate : mV iX2_leastGate 2 := ⟨⟨by decide +kernel, rfl, qi_X2, qo_X2_leastGate, rfl, rfl, ⟨by decide +kernel, by decide +kernel⟩, by decide +kernel⟩, qv_X2_leastGate, qe_X2_leastGate⟩
theorem me_X2_wholeToll : mV iX2_wholeToll 2 := ⟨⟨by decide +kernel, rfl, qi_X2, qo_X2_wholeToll, rfl, rfl, ⟨by decide +kernel, by decide +kernel⟩, by decide +kernel⟩, qv_X2_wholeToll, qe_X2_wholeToll⟩
theorem me_X2_addPassing : mV iX2_addPassing 6 := ⟨⟨by decide +kernel, rfl, qi_X2, qo_X2_addPassing, rfl, rfl, ⟨by decide +kernel, by decide +kernel⟩, by decide +kernel⟩, qv_X2_addPassing, qe_X2_addPassing⟩
theorem me_X2_shiftOn : mV iX2_shiftOn 1 := ⟨⟨by decide +kernel, rfl, qi_X2, qo_X2_shiftOn, rfl, rfl, ⟨by decide +kernel, by decide +kernel⟩, by decide +kernel⟩, qv_X2_shiftOn, qe_X2_shiftOn⟩
theorem me_X2_wrongPassings : mV iX2_wrongPassings 0 := ⟨⟨by decide +kernel, rfl, qi_X2, qo_X2_wrongPassings, rfl, rfl, ⟨by decide +kernel, by decide +kernel⟩, by decide +kernel⟩, qv_X2_wrongPassings, qe_X2_wrongPassings⟩
theorem me_X2_cartsInside : mV iX2_cartsInside 0 := ⟨⟨by decide +kernel, rfl, qi_X2, qo_X2_cartsInside, rfl, rfl, ⟨by decide +kernel, by decide +kernel⟩, by decide +kernel⟩, qv_X2_cartsInside, qe_X2_cartsInside⟩
theorem me_X2_afterPassing : mV iX2_afterPassing 2 := ⟨⟨by decide +kernel, rfl, qi_X2, qo_X2_afterPassing, rfl, rfl, ⟨by decide +kernel, by decide +kernel⟩, by decide +kernel⟩, qv_X2_afterPassing, qe_X2_afterPassing⟩
theorem me_X2_lostCarts : mV iX2_lostCarts 0 := ⟨⟨by decide +kernel, rfl, qi_X2, qo_X2_lostCarts, rfl, rfl, ⟨by decide +kernel, by decide +kernel⟩, by decide +kernel⟩, qv_X2_lostCarts, qe_X2_lostCarts⟩
theorem me_X2_shortOf : mV iX2_shortOf 3 := ⟨⟨by decide +kernel, rfl, qi_X2, qo_X2_shortOf, rfl, rfl, ⟨by decide +kernel, by decide +kernel⟩, by decide +kernel⟩, qv_X2_shortOf, qe_X2_shortOf⟩
theorem me_X3_search : mV iX3_search 2 := ⟨⟨by decide +kernel, rfl, qi_X3, qo_X3_search, rfl, rfl, ⟨by decide +kernel, by decide +kernel⟩, by decide +kernel⟩, qv_X3_search, qe_X3_search⟩
theorem me_X3_anyUse : mV iX3_anyUse 1 := ⟨⟨by decide +kernel, rfl, qi_X3, qo_X3_anyUse, rfl, rfl, ⟨by decide +kernel, by decide +kernel⟩, by decide +kernel⟩, qv_X3_anyUse, qe_X3_anyUse⟩
theorem me_X3_doCover : mV iX3_doCover 3 := ⟨⟨by decide +kernel, rfl, qi_X3, qo_X3_doCover, rfl, rfl, ⟨by decide +kernel, by decide +kernel⟩, by decide +kernel⟩, qv_X3_doCover, qe_X3_doCover⟩
theorem me_X4_isOpen : mV iX4_isOpen 2 := ⟨⟨by decide +kernel, rfl, qi_X4, qo_X4_isOpen, rfl, rfl, ⟨by decide +kernel, by decide +kernel⟩, by decide +kernel⟩, qv_X4_isOpen, qe_X4_isOpen⟩
theorem me_X4_firstIn : mV iX4_firstIn 4 := ⟨⟨by decide +kernel, rfl, qi_X4, qo_X4_firstIn, rfl, rfl, ⟨by decide +kernel, by decide +kernel⟩, by decide +kernel⟩, qv_X4_firstIn, qe_X4_firstIn⟩
theorem me_X5_layRoad : mV iX5_layRoad 3 := ⟨⟨by decide +kernel, rfl, qi_X5, qo_X5_layRoad, rfl, rfl, ⟨by decide +kernel, by decide +kernel⟩, by decide +kernel⟩, qv_X5_layRoad, qe_X5_layRoad⟩
theorem me_X5_layRoadToGates : mV iX5_layRoadToGates 2 := ⟨⟨by decide +kernel, rfl, qi_X5, qo_X5_layRoadToGates, rfl, rfl, ⟨by decide +kernel, by decide +kernel⟩, by decide +kernel⟩, qv_X5_layRoadToGates, qe_X5_layRoadToGates⟩
theorem me_X5_addSick : mV iX5_addSick 3 := ⟨⟨by decide +kernel, rfl, qi_X5, qo_X5_addSick, rfl, rfl, ⟨by decide +kernel, by decide +kernel⟩, by decide +kernel⟩, qv_X5_addSick, qe_X5_addSick⟩
theorem me_X5_addPass : mV iX5_addPass 3 := ⟨⟨by decide +kernel, rfl, qi_X5, qo_X5_addPass, rfl, rfl, ⟨by decide +kernel, by decide +kernel⟩, by decide +kernel⟩, qv_X5_addPass, qe_X5_addPass⟩
theorem me_X5_itemOf : mV iX5_itemOf 2 := ⟨⟨by decide +kernel, rfl, qi_X5, qo_X5_itemOf, rfl, rfl, ⟨by decide +kernel, by decide +kernel⟩, by decide +kernel⟩, qv_X5_itemOf, qe_X5_itemOf⟩
theorem me_X5_canBeTrue : mV iX5_canBeTrue 1 := ⟨⟨by decide +kernel, rfl, qi_X5, qo_X5_canBeTrue, rfl, rfl, ⟨by decide +kernel, by decide +kernel⟩, by decide +kernel⟩, qv_X5_canBeTrue, qe_X5_canBeTrue⟩
theorem me_X5_areFarEnough : mV iX5_areFarEnough 2 := ⟨⟨by decide +kernel, rfl, qi_X5, qo_X5_areFarEnough, rfl, rfl, ⟨by decide +kernel, by decide +kernel⟩, by decide +kernel⟩, qv_X5_areFarEnough, qe_X5_areFarEnough⟩
theorem me_X5_letsIn : mV iX5_letsIn 4 := ⟨⟨by decide +kernel, rfl, qi_X5, qo_X5_letsIn, rfl, rfl, ⟨by decide +kernel, by decide +kernel⟩, by decide +kernel⟩, qv_X5_letsIn, qe_X5_letsIn⟩
theorem me_X5_kindOn : mV iX5_kindOn 2 := ⟨⟨by decide +kernel, rfl, qi_X5, qo_X5_kindOn, rfl, rfl, ⟨by decide +kernel, by decide +kernel⟩, by decide +kernel⟩, qv_X5_kindOn, qe_X5_kindOn⟩
theorem me_X5_isOfKind : mV iX5_isOfKind 3 := ⟨⟨by decide +kernel, rfl, qi_X5, qo_X5_isOfKind, rfl, rfl, ⟨by decide +kernel, by decide +kernel⟩, by decide +kernel⟩, qv_X5_isOfKind, qe_X5_isOfKind⟩
theorem me_X5_howMany : mV iX5_howMany 2 := ⟨⟨by decide +kernel, rfl, qi_X5, qo_X5_howMany, rfl, rfl, ⟨by decide +kernel, by decide +kernel⟩, by decide +kernel⟩, qv_X5_howMany, qe_X5_howMany⟩
theorem me_X5_isForged : mV iX5_isForged 2 := ⟨⟨by decide +kernel, rfl, qi_X5, qo_X5_isForged, rfl, rfl, ⟨by decide +kernel, by decide +kernel⟩, by decide +kernel⟩, qv_X5_isForged, qe_X5_isForged⟩
theorem me_X5_wasSick : mV iX5_wasSick 2 := ⟨⟨by decide +kernel, rfl, qi_X5, qo_X5_wasSick, rfl, rfl, ⟨by decide +kernel, by decide +kernel⟩, by decide +kernel⟩, qv_X5_wasSick, qe_X5_wasSick⟩
theorem me_X5_isSealOfOtherHand : mV iX5_isSealOfOtherHand 1 := ⟨⟨by decide +kernel, rfl, qi_X5, qo_X5_isSealOfOtherHand, rfl, rfl, ⟨by decide +kernel, by decide +kernel⟩, by decide +kernel⟩, qv_X5_isSealOfOtherHand, qe_X5_isSealOfOtherHand⟩
theorem me_X6_clear : mV iX6_clear 0 := ⟨⟨by decide +kernel, rfl, qi_X6, qo_X6_clear, rfl, rfl, ⟨by decide +kernel, by decide +kernel⟩, by decide +kernel⟩, qv_X6_clear, qe_X6_clear⟩
theorem me_X6_comes : mV iX6_comes 2 := ⟨⟨by decide +kernel, rfl, qi_X6, qo_X6_comes, rfl, rfl, ⟨by decide +kernel, by decide +kernel⟩, by decide +kernel⟩, qv_X6_comes, qe_X6_comes⟩
theorem me_X6_shareOut : mV iX6_shareOut 2 := ⟨⟨by decide +kernel, rfl, qi_X6, qo_X6_shareOut, rfl, rfl, ⟨by decide +kernel, by decide +kernel⟩, by decide +kernel⟩, qv_X6_shareOut, qe_X6_shareOut⟩
theorem me_X6_tryWay : mV iX6_tryWay 4 := ⟨⟨by decide +kernel, rfl, qi_X6, qo_X6_tryWay, rfl, rfl, ⟨by decide +kernel, by decide +kernel⟩, by decide +kernel⟩, qv_X6_tryWay, qe_X6_tryWay⟩
theorem me_X6_waitedAt : mV iX6_waitedAt 3 := ⟨⟨by decide +kernel, rfl, qi_X6, qo_X6_waitedAt, rfl, rfl, ⟨by decide +kernel, by decide +kernel⟩, by decide +kernel⟩, qv_X6_waitedAt, qe_X6_waitedAt⟩
theorem me_X6_firstFree : mV iX6_firstFree 1 := ⟨⟨by decide +kernel, rfl, qi_X6, qo_X6_firstFree, rfl, rfl, ⟨by decide +kernel, by decide +kernel⟩, by decide +kernel⟩, qv_X6_firstFree, qe_X6_firstFree⟩
theorem me_X7_hasRoom : mV iX7_hasRoom 1 := ⟨⟨by decide +kernel, rfl, qi_X7, qo_X7_hasRoom, rfl, rfl, ⟨by decide +kernel, by decide +kernel⟩, by decide +kernel⟩, qv_X7_hasRoom, qe_X7_hasRoom⟩
theorem me_X7_append : mV iX7_append 2 := ⟨⟨by decide +kernel, rfl, qi_X7, qo_X7_append, rfl, rfl, ⟨by decide +kernel, by decide +kernel⟩, by decide +kernel⟩, qv_X7_append, qe_X7_append⟩
theorem me_X7_readTape : mV iX7_readTape 0 := ⟨⟨by decide +kernel, rfl, qi_X7, qo_X7_readTape, rfl, rfl, ⟨by decide +kernel, by decide +kernel⟩, by decide +kernel⟩, qv_X7_readTape, qe_X7_readTape⟩
theorem me_X7_readSection : mV iX7_readSection 0 := ⟨⟨by decide +kernel, rfl, qi_X7, qo_X7_readSection, rfl, rfl, ⟨by decide +kernel, by decide +kernel⟩, by decide +kernel⟩, qv_X7_readSection, qe_X7_readSection⟩
theorem me_X7_readLaw : mV iX7_readLaw 1 := ⟨⟨by decide +kernel, rfl, qi_X7, qo_X7_readLaw, rfl, rfl, ⟨by decide +kernel, by decide +kernel⟩, by decide +kernel⟩, qv_X7_readLaw, qe_X7_readLaw⟩
theorem me_X7_lawWord : mV iX7_lawWord 0 := ⟨⟨by decide +kernel, rfl, qi_X7, qo_X7_lawWord, rfl, rfl, ⟨by decide +kernel, by decide +kernel⟩, by decide +kernel⟩, qv_X7_lawWord, qe_X7_lawWord⟩
theorem me_X7_isNumberUpTo : mV iX7_isNumberUpTo 1 := ⟨⟨by decide +kernel, rfl, qi_X7, qo_X7_isNumberUpTo, rfl, rfl, ⟨by decide +kernel, by decide +kernel⟩, by decide +kernel⟩, qv_X7_isNumberUpTo, qe_X7_isNumberUpTo⟩
theorem me_X7_blame : mV iX7_blame 1 := ⟨⟨by decide +kernel, rfl, qi_X7, qo_X7_blame, rfl, rfl, ⟨by decide +kernel, by decide +kernel⟩, by decide +kernel⟩, qv_X7_blame, qe_X7_blame⟩
theorem me_X7_spells : mV iX7_spells 1 := ⟨⟨by decide +kernel, rfl, qi_X7, qo_X7_spells, rfl, rfl, ⟨by decide +kernel, by decide +kernel⟩, by decide +kernel⟩, qv_X7_spells, qe_X7_spells⟩
theorem me_X7_nextToken : mV iX7_nextToken 0 := ⟨⟨by decide +kernel, rfl, qi_X7, qo_X7_nextToken, rfl, rfl, ⟨by decide +kernel, by decide +kernel⟩, by decide +kernel⟩, qv_X7_nextToken, qe_X7_nextToken⟩
theorem me_X7_readName : mV iX7_readName 0 := ⟨⟨by decide +kernel, rfl, qi_X7, qo_X7_readName, rfl, rfl, ⟨by decide +kernel, by decide +kernel⟩, by decide +kernel⟩, qv_X7_readName, qe_X7_readName⟩
theorem me_X7_readNumber : mV iX7_readNumber 0 := ⟨⟨by decide +kernel, rfl, qi_X7, qo_X7_readNumber, rfl, rfl, ⟨by decide +kernel, by decide +kernel⟩, by decide +kernel⟩, qv_X7_readNumber, qe_X7_readNumber⟩
theorem me_X7_isLetter : mS iX7_isLetter 1 := ⟨⟨by decide +kernel, rfl, qi_X7, qo_X7_isLetter, rfl, rfl, ⟨by decide +kernel, by decide +kernel⟩, by decide +kernel⟩, qt_X7_isLetter⟩
theorem me_X7_isFigure : mS iX7_isFigure 1 := ⟨⟨by decide +kernel, rfl, qi_X7, qo_X7_isFigure, rfl, rfl, ⟨by decide +kernel, by decide +kernel⟩, by decide +kernel⟩, qt_X7_isFigure⟩
theorem me_X8_isMissing : mV iX8_isMissing 1 := ⟨⟨by decide +kernel, rfl, qi_X8, qo_X8_isMissing, rfl, rfl, ⟨by decide +kernel, by decide +kernel⟩, by decide +kernel⟩, qv_X8_isMissing, qe_X8_isMissing⟩
theorem me_X8_laneOf : mV iX8_laneOf 1 := ⟨⟨by decide +kernel, rfl, qi_X8, qo_X8_laneOf, rfl, rfl, ⟨by decide +kernel, by decide +kernel⟩, by decide +kernel⟩, qv_X8_laneOf, qe_X8_laneOf⟩
theorem me_X8_hasPlaces : mV iX8_hasPlaces 3 := ⟨⟨by decide +kernel, rfl, qi_X8, qo_X8_hasPlaces, rfl, rfl, ⟨by decide +kernel, by decide +kernel⟩, by decide +kernel⟩, qv_X8_hasPlaces, qe_X8_hasPlaces⟩
theorem me_X8_itemAt : mV iX8_itemAt 2 := ⟨⟨by decide +kernel, rfl, qi_X8, qo_X8_itemAt, rfl, rfl, ⟨by decide +kernel, by decide +kernel⟩, by decide +kernel⟩, qv_X8_itemAt, qe_X8_itemAt⟩
theorem me_X8_lay : mV iX8_lay 3 := ⟨⟨by decide +kernel, rfl, qi_X8, qo_X8_lay, rfl, rfl, ⟨by decide +kernel, by decide +kernel⟩, by decide +kernel⟩, qv_X8_lay, qe_X8_lay⟩
theorem me_X8_put : mV iX8_put 3 := ⟨⟨by decide +kernel, rfl, qi_X8, qo_X8_put, rfl, rfl, ⟨by decide +kernel, by decide +kernel⟩, by decide +kernel⟩, qv_X8_put, qe_X8_put⟩
theorem me_X8_move : mV iX8_move 5 := ⟨⟨by decide +kernel, rfl, qi_X8, qo_X8_move, rfl, rfl, ⟨by decide +kernel, by decide +kernel⟩, by decide +kernel⟩, qv_X8_move, qe_X8_move⟩
theorem me_X8_takeAway : mV iX8_takeAway 1 := ⟨⟨by decide +kernel, rfl, qi_X8, qo_X8_takeAway, rfl, rfl, ⟨by decide +kernel, by decide +kernel⟩, by decide +kernel⟩, qv_X8_takeAway, qe_X8_takeAway⟩
theorem me_X8_present : mV iX8_present 0 := ⟨⟨by decide +kernel, rfl, qi_X8, qo_X8_present, rfl, rfl, ⟨by decide +kernel, by decide +kernel⟩, by decide +kernel⟩, qv_X8_present, qe_X8_present⟩
theorem me_X8_cutTo : mS iX8_cutTo 2 := ⟨⟨by decide +kernel, rfl, qi_X8, qo_X8_cutTo, rfl, rfl, ⟨by decide +kernel, by decide +kernel⟩, by decide +kernel⟩, qt_X8_cutTo⟩
theorem me_X9_addGuest : mV iX9_addGuest 4 := ⟨⟨by decide +kernel, rfl, qi_X9, qo_X9_addGuest, rfl, rfl, ⟨by decide +kernel, by decide +kernel⟩, by decide +kernel⟩, qv_X9_addGuest, qe_X9_addGuest⟩
theorem me_X9_addCase : mV iX9_addCase 2 := ⟨⟨by decide +kernel, rfl, qi_X9, qo_X9_addCase, rfl, rfl, ⟨by decide +kernel, by decide +kernel⟩, by decide +kernel⟩, qv_X9_addCase, qe_X9_addCase⟩
theorem me_X9_housesWithCases : mV iX9_housesWithCases 0 := ⟨⟨by decide +kernel, rfl, qi_X9, qo_X9_housesWithCases, rfl, rfl, ⟨by decide +kernel, by decide +kernel⟩, by decide +kernel⟩, qv_X9_housesWithCases, qe_X9_housesWithCases⟩
theorem me_X9_tellWhoMay : mV iX9_tellWhoMay 1 := ⟨⟨by decide +kernel, rfl, qi_X9, qo_X9_tellWhoMay, rfl, rfl, ⟨by decide +kernel, by decide +kernel⟩, by decide +kernel⟩, qv_X9_tellWhoMay, qe_X9_tellWhoMay⟩
theorem me_X10_addHouse : mV iX10_addHouse 3 := ⟨⟨by decide +kernel, rfl, qi_X10, qo_X10_addHouse, rfl, rfl, ⟨by decide +kernel, by decide +kernel⟩, by decide +kernel⟩, qv_X10_addHouse, qe_X10_addHouse⟩
theorem me_X10_passable : mV iX10_passable 0 := ⟨⟨by decide +kernel, rfl, qi_X10, qo_X10_passable, rfl, rfl, ⟨by decide +kernel, by decide +kernel⟩, by decide +kernel⟩, qv_X10_passable, qe_X10_passable⟩
theorem me_X11_sheet : mV iX11_sheet 3 := ⟨⟨by decide +kernel, rfl, qi_X11, qo_X11_sheet, rfl, rfl, ⟨by decide +kernel, by decide +kernel⟩, by decide +kernel⟩, qv_X11_sheet, qe_X11_sheet⟩
theorem me_X11_set : mV iX11_set 3 := ⟨⟨by decide +kernel, rfl, qi_X11, qo_X11_set, rfl, rfl, ⟨by decide +kernel, by decide +kernel⟩, by decide +kernel⟩, qv_X11_set, qe_X11_set⟩
theorem me_X11_copy : mV iX11_copy 5 := ⟨⟨by decide +kernel, rfl, qi_X11, qo_X11_copy, rfl, rfl, ⟨by decide +kernel, by decide +kernel⟩, by decide +kernel⟩, qv_X11_copy, qe_X11_copy⟩
theorem me_X11_drop : mV iX11_drop 1 := ⟨⟨by decide +kernel, rfl, qi_X11, qo_X11_drop, rfl, rfl, ⟨by decide +kernel, by decide +kernel⟩, by decide +kernel⟩, qv_X11_drop, qe_X11_drop⟩
theorem me_X11_bell : mV iX11_bell 3 := ⟨⟨by decide +kernel, rfl, qi_X11, qo_X11_bell, rfl, rfl, ⟨by decide +kernel, by decide +kernel⟩, by decide +kernel⟩, qv_X11_bell, qe_X11_bell⟩
theorem me_X11_part : mV iX11_part 2 := ⟨⟨by decide +kernel, rfl, qi_X11, qo_X11_part, rfl, rfl, ⟨by decide +kernel, by decide +kernel⟩, by decide +kernel⟩, qv_X11_part, qe_X11_part⟩
theorem me_X11_stands : mV iX11_stands 3 := ⟨⟨by decide +kernel, rfl, qi_X11, qo_X11_stands, rfl, rfl, ⟨by decide +kernel, by decide +kernel⟩, by decide +kernel⟩, qv_X11_stands, qe_X11_stands⟩
theorem me_X11_feed : mV iX11_feed 2 := ⟨⟨by decide +kernel, rfl, qi_X11, qo_X11_feed, rfl, rfl, ⟨by decide +kernel, by decide +kernel⟩, by decide +kernel⟩, qv_X11_feed, qe_X11_feed⟩
theorem me_X11_laws : mV iX11_laws 0 := ⟨⟨by decide +kernel, rfl, qi_X11, qo_X11_laws, rfl, rfl, ⟨by decide +kernel, by decide +kernel⟩, by decide +kernel⟩, qv_X11_laws, qe_X11_laws⟩
theorem me_X11_fault : mV iX11_fault 0 := ⟨⟨by decide +kernel, rfl, qi_X11, qo_X11_fault, rfl, rfl, ⟨by decide +kernel, by decide +kernel⟩, by decide +kernel⟩, qv_X11_fault, qe_X11_fault⟩
theorem me_X11_holds : mV iX11_holds 2 := ⟨⟨by decide +kernel, rfl, qi_X11, qo_X11_holds, rfl, rfl, ⟨by decide +kernel, by decide +kernel⟩, by decide +kernel⟩, qv_X11_holds, qe_X11_holds⟩
theorem me_X11_cart : mV iX11_cart 2 := ⟨⟨by decide +kernel, rfl, qi_X11, qo_X11_cart, rfl, rfl, ⟨by decide +kernel, by decide +kernel⟩, by decide +kernel⟩, qv_X11_cart, qe_X11_cart⟩
theorem me_X11_owed : mV iX11_owed 3 := ⟨⟨by decide +kernel, rfl, qi_X11, qo_X11_owed, rfl, rfl, ⟨by decide +kernel, by decide +kernel⟩, by decide +kernel⟩, qv_X11_owed, qe_X11_owed⟩
theorem me_X11_pass : mV iX11_pass 6 := ⟨⟨by decide +kernel, rfl, qi_X11, qo_X11_pass, rfl, rfl, ⟨by decide +kernel, by decide +kernel⟩, by decide +kernel⟩, qv_X11_pass, qe_X11_pass⟩
theorem me_X11_agree : mV iX11_agree 1 := ⟨⟨by decide +kernel, rfl, qi_X11, qo_X11_agree, rfl, rfl, ⟨by decide +kernel, by decide +kernel⟩, by decide +kernel⟩, qv_X11_agree, qe_X11_agree⟩
theorem me_X11_amiss : mV iX11_amiss 3 := ⟨⟨by decide +kernel, rfl, qi_X11, qo_X11_amiss, rfl, rfl, ⟨by decide +kernel, by decide +kernel⟩, by decide +kernel⟩, qv_X11_amiss, qe_X11_amiss⟩
theorem me_X11_road : mV iX11_road 3 := ⟨⟨by decide +kernel, rfl, qi_X11, qo_X11_road, rfl, rfl, ⟨by decide +kernel, by decide +kernel⟩, by decide +kernel⟩, qv_X11_road, qe_X11_road⟩
theorem me_X11_sick : mV iX11_sick 3 := ⟨⟨by decide +kernel, rfl, qi_X11, qo_X11_sick, rfl, rfl, ⟨by decide +kernel, by decide +kernel⟩, by decide +kernel⟩, qv_X11_sick, qe_X11_sick⟩
theorem me_X11_seal : mV iX11_seal 2 := ⟨⟨by decide +kernel, rfl, qi_X11, qo_X11_seal, rfl, rfl, ⟨by decide +kernel, by decide +kernel⟩, by decide +kernel⟩, qv_X11_seal, qe_X11_seal⟩
theorem me_X11_canbe : mV iX11_canbe 1 := ⟨⟨by decide +kernel, rfl, qi_X11, qo_X11_canbe, rfl, rfl, ⟨by decide +kernel, by decide +kernel⟩, by decide +kernel⟩, qv_X11_canbe, qe_X11_canbe⟩
theorem me_X11_lets : mV iX11_lets 4 := ⟨⟨by decide +kernel, rfl, qi_X11, qo_X11_lets, rfl, rfl, ⟨by decide +kernel, by decide +kernel⟩, by decide +kernel⟩, qv_X11_lets, qe_X11_lets⟩
theorem me_X11_dusk : mV iX11_dusk 4 := ⟨⟨by decide +kernel, rfl, qi_X11, qo_X11_dusk, rfl, rfl, ⟨by decide +kernel, by decide +kernel⟩, by decide +kernel⟩, qv_X11_dusk, qe_X11_dusk⟩
theorem me_X11_clerks : mV iX11_clerks 6 := ⟨⟨by decide +kernel, rfl, qi_X11, qo_X11_clerks, rfl, rfl, ⟨by decide +kernel, by decide +kernel⟩, by decide +kernel⟩, qv_X11_clerks, qe_X11_clerks⟩
theorem me_X11_guest : mV iX11_guest 4 := ⟨⟨by decide +kernel, rfl, qi_X11, qo_X11_guest, rfl, rfl, ⟨by decide +kernel, by decide +kernel⟩, by decide +kernel⟩, qv_X11_guest, qe_X11_guest⟩
theorem me_X11_fell : mV iX11_fell 2 := ⟨⟨by decide +kernel, rfl, qi_X11, qo_X11_fell, rfl, rfl, ⟨by decide +kernel, by decide +kernel⟩, by decide +kernel⟩, qv_X11_fell, qe_X11_fell⟩
theorem me_X11_brought : mV iX11_brought 1 := ⟨⟨by decide +kernel, rfl, qi_X11, qo_X11_brought, rfl, rfl, ⟨by decide +kernel, by decide +kernel⟩, by decide +kernel⟩, qv_X11_brought, qe_X11_brought⟩
theorem me_X11_high : mV iX11_high 2 := ⟨⟨by decide +kernel, rfl, qi_X11, qo_X11_high, rfl, rfl, ⟨by decide +kernel, by decide +kernel⟩, by decide +kernel⟩, qv_X11_high, qe_X11_high⟩
theorem me_X11_lean : mV iX11_lean 3 := ⟨⟨by decide +kernel, rfl, qi_X11, qo_X11_lean, rfl, rfl, ⟨by decide +kernel, by decide +kernel⟩, by decide +kernel⟩, qv_X11_lean, qe_X11_lean⟩
theorem me_X11_breaches : mV iX11_breaches 0 := ⟨⟨by decide +kernel, rfl, qi_X11, qo_X11_breaches, rfl, rfl, ⟨by decide +kernel, by decide +kernel⟩, by decide +kernel⟩, qv_X11_breaches, qe_X11_breaches⟩
theorem me_X11_watch : mV iX11_watch 3 := ⟨⟨by decide +kernel, rfl, qi_X11, qo_X11_watch, rfl, rfl, ⟨by decide +kernel, by decide +kernel⟩, by decide +kernel⟩, qv_X11_watch, qe_X11_watch⟩
theorem me_X11_day : mV iX11_day 1 := ⟨⟨by decide +kernel, rfl, qi_X11, qo_X11_day, rfl, rfl, ⟨by decide +kernel, by decide +kernel⟩, by decide +kernel⟩, qv_X11_day, qe_X11_day⟩
theorem me_X11_kind : mV iX11_kind 1 := ⟨⟨by decide +kernel, rfl, qi_X11, qo_X11_kind, rfl, rfl, ⟨by decide +kernel, by decide +kernel⟩, by decide +kernel⟩, qv_X11_kind, qe_X11_kind⟩
theorem me_X11_as : mV iX11_as 2 := ⟨⟨by decide +kernel, rfl, qi_X11, qo_X11_as, rfl, rfl, ⟨by decide +kernel, by decide +kernel⟩, by decide +kernel⟩, qv_X11_as, qe_X11_as⟩
theorem me_X11_ask : mV iX11_ask 2 := ⟨⟨by decide +kernel, rfl, qi_X11, qo_X11_ask, rfl, rfl, ⟨by decide +kernel, by decide +kernel⟩, by decide +kernel⟩, qv_X11_ask, qe_X11_ask⟩
theorem me_X11_trace : mV iX11_trace 1 := ⟨⟨by decide +kernel, rfl, qi_X11, qo_X11_trace, rfl, rfl, ⟨by decide +kernel, by decide +kernel⟩, by decide +kernel⟩, qv_X11_trace, qe_X11_trace⟩
theorem me_X11_count : mV iX11_count 1 := ⟨⟨by decide +kernel, rfl, qi_X11, qo_X11_count, rfl, rfl, ⟨by decide +kernel, by decide +kernel⟩, by decide +kernel⟩, qv_X11_count, qe_X11_count⟩
theorem me_X11_status : mV iX11_status 0 := ⟨⟨by decide +kernel, rfl, qi_X11, qo_X11_status, rfl, rfl, ⟨by decide +kernel, by decide +kernel⟩, by decide +kernel⟩, qv_X11_status, qe_X11_status⟩
theorem me_X11_found : mV iX11_found 1 := ⟨⟨by decide +kernel, rfl, qi_X11, qo_X11_found, rfl, rfl, ⟨by decide +kernel, by decide +kernel⟩, by decide +kernel⟩, qv_X11_found, qe_X11_found⟩
theorem me_X11_fine : mV iX11_fine 1 := ⟨⟨by decide +kernel, rfl, qi_X11, qo_X11_fine, rfl, rfl, ⟨by decide +kernel, by decide +kernel⟩, by decide +kernel⟩, qv_X11_fine, qe_X11_fine⟩
theorem me_X11_flawOf : mV iX11_flawOf 3 := ⟨⟨by decide +kernel, rfl, qi_X11, qo_X11_flawOf, rfl, rfl, ⟨by decide +kernel, by decide +kernel⟩, by decide +kernel⟩, qv_X11_flawOf, qe_X11_flawOf⟩
theorem me_X11_isCart : mV iX11_isCart 1 := ⟨⟨by decide +kernel, rfl, qi_X11, qo_X11_isCart, rfl, rfl, ⟨by decide +kernel, by decide +kernel⟩, by decide +kernel⟩, qv_X11_isCart, qe_X11_isCart⟩
theorem me_X11_isPass : mV iX11_isPass 1 := ⟨⟨by decide +kernel, rfl, qi_X11, qo_X11_isPass, rfl, rfl, ⟨by decide +kernel, by decide +kernel⟩, by decide +kernel⟩, qv_X11_isPass, qe_X11_isPass⟩
theorem me_X11_isSheet : mS iX11_isSheet 1 := ⟨⟨by decide +kernel, rfl, qi_X11, qo_X11_isSheet, rfl, rfl, ⟨by decide +kernel, by decide +kernel⟩, by decide +kernel⟩, qt_X11_isSheet⟩
theorem me_X11_isGate : mS iX11_isGate 1 := ⟨⟨by decide +kernel, rfl, qi_X11, qo_X11_isGate, rfl, rfl, ⟨by decide +kernel, by decide +kernel⟩, by decide +kernel⟩, qt_X11_isGate⟩
theorem me_X11_isTown : mS iX11_isTown 1 := ⟨⟨by decide +kernel, rfl, qi_X11, qo_X11_isTown, rfl, rfl, ⟨by decide +kernel, by decide +kernel⟩, by decide +kernel⟩, qt_X11_isTown⟩
theorem me_X11_isPerson : mS iX11_isPerson 1 := ⟨⟨by decide +kernel, rfl, qi_X11, qo_X11_isPerson, rfl, rfl, ⟨by decide +kernel, by decide +kernel⟩, by decide +kernel⟩, qt_X11_isPerson⟩
theorem me_X11_isHouse : mS iX11_isHouse 1 := ⟨⟨by decide +kernel, rfl, qi_X11, qo_X11_isHouse, rfl, rfl, ⟨by decide +kernel, by decide +kernel⟩, by decide +kernel⟩, qt_X11_isHouse⟩
theorem me_X11_isLength : mS iX11_isLength 1 := ⟨⟨by decide +kernel, rfl, qi_X11, qo_X11_isLength, rfl, rfl, ⟨by decide +kernel, by decide +kernel⟩, by decide +kernel⟩, qt_X11_isLength⟩
theorem me_X11_isDay : mS iX11_isDay 1 := ⟨⟨by decide +kernel, rfl, qi_X11, qo_X11_isDay, rfl, rfl, ⟨by decide +kernel, by decide +kernel⟩, by decide +kernel⟩, qt_X11_isDay⟩
theorem me_X11_areDays : mS iX11_areDays 2 := ⟨⟨by decide +kernel, rfl, qi_X11, qo_X11_areDays, rfl, rfl, ⟨by decide +kernel, by decide +kernel⟩, by decide +kernel⟩, qt_X11_areDays⟩
theorem me_X11_isMinute : mS iX11_isMinute 1 := ⟨⟨by decide +kernel, rfl, qi_X11, qo_X11_isMinute, rfl, rfl, ⟨by decide +kernel, by decide +kernel⟩, by decide +kernel⟩, qt_X11_isMinute⟩
theorem me_X11_isPlace : mS iX11_isPlace 2 := ⟨⟨by decide +kernel, rfl, qi_X11, qo_X11_isPlace, rfl, rfl, ⟨by decide +kernel, by decide +kernel⟩, by decide +kernel⟩, qt_X11_isPlace⟩
theorem me_X11_within : mS iX11_within 3 := ⟨⟨by decide +kernel, rfl, qi_X11, qo_X11_within, rfl, rfl, ⟨by decide +kernel, by decide +kernel⟩, by decide +kernel⟩, qt_X11_within⟩
theorem me_X12_in : mS iX12_in 3 := ⟨⟨by decide +kernel, rfl, qi_X12, qo_X12_in, rfl, rfl, ⟨by decide +kernel, by decide +kernel⟩, by decide +kernel⟩, qt_X12_in⟩
theorem me_X12_finding : mV iX12_finding 1 := ⟨⟨by decide +kernel, rfl, qi_X12, qo_X12_finding, rfl, rfl, ⟨by decide +kernel, by decide +kernel⟩, by decide +kernel⟩, qv_X12_finding, qe_X12_finding⟩
theorem me_X12_isSheet : mS iX12_isSheet 1 := ⟨⟨by decide +kernel, rfl, qi_X12, qo_X12_isSheet, rfl, rfl, ⟨by decide +kernel, by decide +kernel⟩, by decide +kernel⟩, qt_X12_isSheet⟩
theorem me_X12_sheet : mV iX12_sheet 3 := ⟨⟨by decide +kernel, rfl, qi_X12, qo_X12_sheet, rfl, rfl, ⟨by decide +kernel, by decide +kernel⟩, by decide +kernel⟩, qv_X12_sheet, qe_X12_sheet⟩
theorem me_X12_set : mV iX12_set 3 := ⟨⟨by decide +kernel, rfl, qi_X12, qo_X12_set, rfl, rfl, ⟨by decide +kernel, by decide +kernel⟩, by decide +kernel⟩, qv_X12_set, qe_X12_set⟩
theorem me_X12_copy : mV iX12_copy 5 := ⟨⟨by decide +kernel, rfl, qi_X12, qo_X12_copy, rfl, rfl, ⟨by decide +kernel, by decide +kernel⟩, by decide +kernel⟩, qv_X12_copy, qe_X12_copy⟩
theorem me_X12_drop : mV iX12_drop 1 := ⟨⟨by decide +kernel, rfl, qi_X12, qo_X12_drop, rfl, rfl, ⟨by decide +kernel, by decide +kernel⟩, by decide +kernel⟩, qv_X12_drop, qe_X12_drop⟩
theorem me_X12_lookItems : mV iX12_lookItems 3 := ⟨⟨by decide +kernel, rfl, qi_X12, qo_X12_lookItems, rfl, rfl, ⟨by decide +kernel, by decide +kernel⟩, by decide +kernel⟩, qv_X12_lookItems, qe_X12_lookItems⟩
theorem me_X12_isGate : mS iX12_isGate 1 := ⟨⟨by decide +kernel, rfl, qi_X12, qo_X12_isGate, rfl, rfl, ⟨by decide +kernel, by decide +kernel⟩, by decide +kernel⟩, qt_X12_isGate⟩
theorem me_X12_isDay : mS iX12_isDay 1 := ⟨⟨by decide +kernel, rfl, qi_X12, qo_X12_isDay, rfl, rfl, ⟨by decide +kernel, by decide +kernel⟩, by decide +kernel⟩, qt_X12_isDay⟩
theorem me_X12_isMinute : mS iX12_isMinute 1 := ⟨⟨by decide +kernel, rfl, qi_X12, qo_X12_isMinute, rfl, rfl, ⟨by decide +kernel, by decide +kernel⟩, by decide +kernel⟩, qt_X12_isMinute⟩
theorem me_X12_isSpot : mS iX12_isSpot 2 := ⟨⟨by decide +kernel, rfl, qi_X12, qo_X12_isSpot, rfl, rfl, ⟨by decide +kernel, by decide +kernel⟩, by decide +kernel⟩, qt_X12_isSpot⟩
theorem me_X12_bell : mV iX12_bell 3 := ⟨⟨by decide +kernel, rfl, qi_X12, qo_X12_bell, rfl, rfl, ⟨by decide +kernel, by decide +kernel⟩, by decide +kernel⟩, qv_X12_bell, qe_X12_bell⟩
theorem me_X12_part : mV iX12_part 2 := ⟨⟨by decide +kernel, rfl, qi_X12, qo_X12_part, rfl, rfl, ⟨by decide +kernel, by decide +kernel⟩, by decide +kernel⟩, qv_X12_part, qe_X12_part⟩
theorem me_X12_stands : mV iX12_stands 3 := ⟨⟨by decide +kernel, rfl, qi_X12, qo_X12_stands, rfl, rfl, ⟨by decide +kernel, by decide +kernel⟩, by decide +kernel⟩, qv_X12_stands, qe_X12_stands⟩
theorem me_X12_isOpen : mV iX12_isOpen 2 := ⟨⟨by decide +kernel, rfl, qi_X12, qo_X12_isOpen, rfl, rfl, ⟨by decide +kernel, by decide +kernel⟩, by decide +kernel⟩, qv_X12_isOpen, qe_X12_isOpen⟩
theorem me_X12_feed : mV iX12_feed 2 := ⟨⟨by decide +kernel, rfl, qi_X12, qo_X12_feed, rfl, rfl, ⟨by decide +kernel, by decide +kernel⟩, by decide +kernel⟩, qv_X12_feed, qe_X12_feed⟩
theorem me_X12_byteAt : mV iX12_byteAt 1 := ⟨⟨by decide +kernel, rfl, qi_X12, qo_X12_byteAt, rfl, rfl, ⟨by decide +kernel, by decide +kernel⟩, by decide +kernel⟩, qv_X12_byteAt, qe_X12_byteAt⟩
theorem me_X12_isLetter : mS iX12_isLetter 1 := ⟨⟨by decide +kernel, rfl, qi_X12, qo_X12_isLetter, rfl, rfl, ⟨by decide +kernel, by decide +kernel⟩, by decide +kernel⟩, qt_X12_isLetter⟩
theorem me_X12_isFigure : mS iX12_isFigure 1 := ⟨⟨by decide +kernel, rfl, qi_X12, qo_X12_isFigure, rfl, rfl, ⟨by decide +kernel, by decide +kernel⟩, by decide +kernel⟩, qt_X12_isFigure⟩
theorem me_X12_step : mV iX12_step 0 := ⟨⟨by decide +kernel, rfl, qi_X12, qo_X12_step, rfl, rfl, ⟨by decide +kernel, by decide +kernel⟩, by decide +kernel⟩, qv_X12_step, qe_X12_step⟩
theorem me_X12_bad : mV iX12_bad 1 := ⟨⟨by decide +kernel, rfl, qi_X12, qo_X12_bad, rfl, rfl, ⟨by decide +kernel, by decide +kernel⟩, by decide +kernel⟩, qv_X12_bad, qe_X12_bad⟩
theorem me_X12_need : mV iX12_need 1 := ⟨⟨by decide +kernel, rfl, qi_X12, qo_X12_need, rfl, rfl, ⟨by decide +kernel, by decide +kernel⟩, by decide +kernel⟩, qv_X12_need, qe_X12_need⟩
theorem me_X12_word : mV iX12_word 0 := ⟨⟨by decide +kernel, rfl, qi_X12, qo_X12_word, rfl, rfl, ⟨by decide +kernel, by decide +kernel⟩, by decide +kernel⟩, qv_X12_word, qe_X12_word⟩
theorem me_X12_numberTo : mV iX12_numberTo 1 := ⟨⟨by decide +kernel, rfl, qi_X12, qo_X12_numberTo, rfl, rfl, ⟨by decide +kernel, by decide +kernel⟩, by decide +kernel⟩, qv_X12_numberTo, qe_X12_numberTo⟩
theorem me_X12_lawOfWord : mV iX12_lawOfWord 0 := ⟨⟨by decide +kernel, rfl, qi_X12, qo_X12_lawOfWord, rfl, rfl, ⟨by decide +kernel, by decide +kernel⟩, by decide +kernel⟩, qv_X12_lawOfWord, qe_X12_lawOfWord⟩
theorem me_X12_readLaw : mV iX12_readLaw 1 := ⟨⟨by decide +kernel, rfl, qi_X12, qo_X12_readLaw, rfl, rfl, ⟨by decide +kernel, by decide +kernel⟩, by decide +kernel⟩, qv_X12_readLaw, qe_X12_readLaw⟩
theorem me_X12_laws : mV iX12_laws 0 := ⟨⟨by decide +kernel, rfl, qi_X12, qo_X12_laws, rfl, rfl, ⟨by decide +kernel, by decide +kernel⟩, by decide +kernel⟩, qv_X12_laws, qe_X12_laws⟩
theorem me_X12_fault : mV iX12_fault 0 := ⟨⟨by decide +kernel, rfl, qi_X12, qo_X12_fault, rfl, rfl, ⟨by decide +kernel, by decide +kernel⟩, by decide +kernel⟩, qv_X12_fault, qe_X12_fault⟩
theorem me_X12_lawFor : mV iX12_lawFor 4 := ⟨⟨by decide +kernel, rfl, qi_X12, qo_X12_lawFor, rfl, rfl, ⟨by decide +kernel, by decide +kernel⟩, by decide +kernel⟩, qv_X12_lawFor, qe_X12_lawFor⟩
theorem me_X12_numberFor : mV iX12_numberFor 3 := ⟨⟨by decide +kernel, rfl, qi_X12, qo_X12_numberFor, rfl, rfl, ⟨by decide +kernel, by decide +kernel⟩, by decide +kernel⟩, qv_X12_numberFor, qe_X12_numberFor⟩
theorem me_X12_isGood : mV iX12_isGood 2 := ⟨⟨by decide +kernel, rfl, qi_X12, qo_X12_isGood, rfl, rfl, ⟨by decide +kernel, by decide +kernel⟩, by decide +kernel⟩, qv_X12_isGood, qe_X12_isGood⟩
theorem me_X12_isBanned : mV iX12_isBanned 2 := ⟨⟨by decide +kernel, rfl, qi_X12, qo_X12_isBanned, rfl, rfl, ⟨by decide +kernel, by decide +kernel⟩, by decide +kernel⟩, qv_X12_isBanned, qe_X12_isBanned⟩
theorem me_X12_holds : mV iX12_holds 2 := ⟨⟨by decide +kernel, rfl, qi_X12, qo_X12_holds, rfl, rfl, ⟨by decide +kernel, by decide +kernel⟩, by decide +kernel⟩, qv_X12_holds, qe_X12_holds⟩
theorem me_X12_cart : mV iX12_cart 2 := ⟨⟨by decide +kernel, rfl, qi_X12, qo_X12_cart, rfl, rfl, ⟨by decide +kernel, by decide +kernel⟩, by decide +kernel⟩, qv_X12_cart, qe_X12_cart⟩
theorem me_X12_isCart : mV iX12_isCart 1 := ⟨⟨by decide +kernel, rfl, qi_X12, qo_X12_isCart, rfl, rfl, ⟨by decide +kernel, by decide +kernel⟩, by decide +kernel⟩, qv_X12_isCart, qe_X12_isCart⟩
theorem me_X12_owedBy : mV iX12_owedBy 3 := ⟨⟨by decide +kernel, rfl, qi_X12, qo_X12_owedBy, rfl, rfl, ⟨by decide +kernel, by decide +kernel⟩, by decide +kernel⟩, qv_X12_owedBy, qe_X12_owedBy⟩
theorem me_X12_owed : mV iX12_owed 3 := ⟨⟨by decide +kernel, rfl, qi_X12, qo_X12_owed, rfl, rfl, ⟨by decide +kernel, by decide +kernel⟩, by decide +kernel⟩, qv_X12_owed, qe_X12_owed⟩
theorem me_X12_pass : mV iX12_pass 6 := ⟨⟨by decide +kernel, rfl, qi_X12, qo_X12_pass, rfl, rfl, ⟨by decide +kernel, by decide +kernel⟩, by decide +kernel⟩, qv_X12_pass, qe_X12_pass⟩
theorem me_X12_goThrough : mV iX12_goThrough 0 := ⟨⟨by decide +kernel, rfl, qi_X12, qo_X12_goThrough, rfl, rfl, ⟨by decide +kernel, by decide +kernel⟩, by decide +kernel⟩, qv_X12_goThrough, qe_X12_goThrough⟩
theorem me_X12_agree : mV iX12_agree 1 := ⟨⟨by decide +kernel, rfl, qi_X12, qo_X12_agree, rfl, rfl, ⟨by decide +kernel, by decide +kernel⟩, by decide +kernel⟩, qv_X12_agree, qe_X12_agree⟩
theorem me_X12_amiss : mV iX12_amiss 3 := ⟨⟨by decide +kernel, rfl, qi_X12, qo_X12_amiss, rfl, rfl, ⟨by decide +kernel, by decide +kernel⟩, by decide +kernel⟩, qv_X12_amiss, qe_X12_amiss⟩
theorem me_X12_isTown : mS iX12_isTown 1 := ⟨⟨by decide +kernel, rfl, qi_X12, qo_X12_isTown, rfl, rfl, ⟨by decide +kernel, by decide +kernel⟩, by decide +kernel⟩, qt_X12_isTown⟩
theorem me_X12_isPerson : mS iX12_isPerson 1 := ⟨⟨by decide +kernel, rfl, qi_X12, qo_X12_isPerson, rfl, rfl, ⟨by decide +kernel, by decide +kernel⟩, by decide +kernel⟩, qt_X12_isPerson⟩
theorem me_X12_road : mV iX12_road 3 := ⟨⟨by decide +kernel, rfl, qi_X12, qo_X12_road, rfl, rfl, ⟨by decide +kernel, by decide +kernel⟩, by decide +kernel⟩, qv_X12_road, qe_X12_road⟩
theorem me_X12_sick : mV iX12_sick 3 := ⟨⟨by decide +kernel, rfl, qi_X12, qo_X12_sick, rfl, rfl, ⟨by decide +kernel, by decide +kernel⟩, by decide +kernel⟩, qv_X12_sick, qe_X12_sick⟩
theorem me_X12_seal : mV iX12_seal 2 := ⟨⟨by decide +kernel, rfl, qi_X12, qo_X12_seal, rfl, rfl, ⟨by decide +kernel, by decide +kernel⟩, by decide +kernel⟩, qv_X12_seal, qe_X12_seal⟩
theorem me_X12_isPass : mV iX12_isPass 1 := ⟨⟨by decide +kernel, rfl, qi_X12, qo_X12_isPass, rfl, rfl, ⟨by decide +kernel, by decide +kernel⟩, by decide +kernel⟩, qv_X12_isPass, qe_X12_isPass⟩
theorem me_X12_on : mV iX12_on 2 := ⟨⟨by decide +kernel, rfl, qi_X12, qo_X12_on, rfl, rfl, ⟨by decide +kernel, by decide +kernel⟩, by decide +kernel⟩, qv_X12_on, qe_X12_on⟩
theorem me_X12_isForged : mV iX12_isForged 2 := ⟨⟨by decide +kernel, rfl, qi_X12, qo_X12_isForged, rfl, rfl, ⟨by decide +kernel, by decide +kernel⟩, by decide +kernel⟩, qv_X12_isForged, qe_X12_isForged⟩
theorem me_X12_kindOf : mV iX12_kindOf 1 := ⟨⟨by decide +kernel, rfl, qi_X12, qo_X12_kindOf, rfl, rfl, ⟨by decide +kernel, by decide +kernel⟩, by decide +kernel⟩, qv_X12_kindOf, qe_X12_kindOf⟩
theorem me_X12_canbe : mV iX12_canbe 1 := ⟨⟨by decide +kernel, rfl, qi_X12, qo_X12_canbe, rfl, rfl, ⟨by decide +kernel, by decide +kernel⟩, by decide +kernel⟩, qv_X12_canbe, qe_X12_canbe⟩
theorem me_X12_lets : mV iX12_lets 4 := ⟨⟨by decide +kernel, rfl, qi_X12, qo_X12_lets, rfl, rfl, ⟨by decide +kernel, by decide +kernel⟩, by decide +kernel⟩, qv_X12_lets, qe_X12_lets⟩
theorem me_X12_far : mS iX12_far 2 := ⟨⟨by decide +kernel, rfl, qi_X12, qo_X12_far, rfl, rfl, ⟨by decide +kernel, by decide +kernel⟩, by decide +kernel⟩, qt_X12_far⟩
theorem me_X12_dusk : mV iX12_dusk 4 := ⟨⟨by decide +kernel, rfl, qi_X12, qo_X12_dusk, rfl, rfl, ⟨by decide +kernel, by decide +kernel⟩, by decide +kernel⟩, qv_X12_dusk, qe_X12_dusk⟩
theorem me_X12_waitedAt : mV iX12_waitedAt 5 := ⟨⟨by decide +kernel, rfl, qi_X12, qo_X12_waitedAt, rfl, rfl, ⟨by decide +kernel, by decide +kernel⟩, by decide +kernel⟩, qv_X12_waitedAt, qe_X12_waitedAt⟩
theorem me_X12_clerks : mV iX12_clerks 6 := ⟨⟨by decide +kernel, rfl, qi_X12, qo_X12_clerks, rfl, rfl, ⟨by decide +kernel, by decide +kernel⟩, by decide +kernel⟩, qv_X12_clerks, qe_X12_clerks⟩
theorem me_X12_guest : mV iX12_guest 4 := ⟨⟨by decide +kernel, rfl, qi_X12, qo_X12_guest, rfl, rfl, ⟨by decide +kernel, by decide +kernel⟩, by decide +kernel⟩, qv_X12_guest, qe_X12_guest⟩
theorem me_X12_fell : mV iX12_fell 2 := ⟨⟨by decide +kernel, rfl, qi_X12, qo_X12_fell, rfl, rfl, ⟨by decide +kernel, by decide +kernel⟩, by decide +kernel⟩, qv_X12_fell, qe_X12_fell⟩
theorem me_X12_bits : mS iX12_bits 1 := ⟨⟨by decide +kernel, rfl, qi_X12, qo_X12_bits, rfl, rfl, ⟨by decide +kernel, by decide +kernel⟩, by decide +kernel⟩, qt_X12_bits⟩
theorem me_X12_whoMay : mV iX12_whoMay 1 := ⟨⟨by decide +kernel, rfl, qi_X12, qo_X12_whoMay, rfl, rfl, ⟨by decide +kernel, by decide +kernel⟩, by decide +kernel⟩, qv_X12_whoMay, qe_X12_whoMay⟩
theorem me_X12_brought : mV iX12_brought 1 := ⟨⟨by decide +kernel, rfl, qi_X12, qo_X12_brought, rfl, rfl, ⟨by decide +kernel, by decide +kernel⟩, by decide +kernel⟩, qv_X12_brought, qe_X12_brought⟩
theorem me_X12_isLength : mS iX12_isLength 1 := ⟨⟨by decide +kernel, rfl, qi_X12, qo_X12_isLength, rfl, rfl, ⟨by decide +kernel, by decide +kernel⟩, by decide +kernel⟩, qt_X12_isLength⟩
theorem me_X12_high : mV iX12_high 2 := ⟨⟨by decide +kernel, rfl, qi_X12, qo_X12_high, rfl, rfl, ⟨by decide +kernel, by decide +kernel⟩, by decide +kernel⟩, qv_X12_high, qe_X12_high⟩
theorem me_X12_lean : mV iX12_lean 3 := ⟨⟨by decide +kernel, rfl, qi_X12, qo_X12_lean, rfl, rfl, ⟨by decide +kernel, by decide +kernel⟩, by decide +kernel⟩, qv_X12_lean, qe_X12_lean⟩
theorem me_X12_breachesNow : mV iX12_breachesNow 0 := ⟨⟨by decide +kernel, rfl, qi_X12, qo_X12_breachesNow, rfl, rfl, ⟨by decide +kernel, by decide +kernel⟩, by decide +kernel⟩, qv_X12_breachesNow, qe_X12_breachesNow⟩
theorem me_X12_breaches : mV iX12_breaches 0 := ⟨⟨by decide +kernel, rfl, qi_X12, qo_X12_breaches, rfl, rfl, ⟨by decide +kernel, by decide +kernel⟩, by decide +kernel⟩, qv_X12_breaches, qe_X12_breaches⟩
theorem me_X12_watch : mV iX12_watch 3 := ⟨⟨by decide +kernel, rfl, qi_X12, qo_X12_watch, rfl, rfl, ⟨by decide +kernel, by decide +kernel⟩, by decide +kernel⟩, qv_X12_watch, qe_X12_watch⟩
theorem me_X12_day : mV iX12_day 1 := ⟨⟨by decide +kernel, rfl, qi_X12, qo_X12_day, rfl, rfl, ⟨by decide +kernel, by decide +kernel⟩, by decide +kernel⟩, qv_X12_day, qe_X12_day⟩
theorem me_X12_isOf : mS iX12_isOf 2 := ⟨⟨by decide +kernel, rfl, qi_X12, qo_X12_isOf, rfl, rfl, ⟨by decide +kernel, by decide +kernel⟩, by decide +kernel⟩, qt_X12_isOf⟩
theorem me_X12_kind : mV iX12_kind 1 := ⟨⟨by decide +kernel, rfl, qi_X12, qo_X12_kind, rfl, rfl, ⟨by decide +kernel, by decide +kernel⟩, by decide +kernel⟩, qv_X12_kind, qe_X12_kind⟩
theorem me_X12_as : mV iX12_as 2 := ⟨⟨by decide +kernel, rfl, qi_X12, qo_X12_as, rfl, rfl, ⟨by decide +kernel, by decide +kernel⟩, by decide +kernel⟩, qv_X12_as, qe_X12_as⟩
theorem me_X12_began : mV iX12_began 1 := ⟨⟨by decide +kernel, rfl, qi_X12, qo_X12_began, rfl, rfl, ⟨by decide +kernel, by decide +kernel⟩, by decide +kernel⟩, qv_X12_began, qe_X12_began⟩
theorem me_X12_nightSize : mV iX12_nightSize 1 := ⟨⟨by decide +kernel, rfl, qi_X12, qo_X12_nightSize, rfl, rfl, ⟨by decide +kernel, by decide +kernel⟩, by decide +kernel⟩, qv_X12_nightSize, qe_X12_nightSize⟩
theorem me_X12_markOf : mV iX12_markOf 2 := ⟨⟨by decide +kernel, rfl, qi_X12, qo_X12_markOf, rfl, rfl, ⟨by decide +kernel, by decide +kernel⟩, by decide +kernel⟩, qv_X12_markOf, qe_X12_markOf⟩
theorem me_X12_sizeOf : mV iX12_sizeOf 2 := ⟨⟨by decide +kernel, rfl, qi_X12, qo_X12_sizeOf, rfl, rfl, ⟨by decide +kernel, by decide +kernel⟩, by decide +kernel⟩, qv_X12_sizeOf, qe_X12_sizeOf⟩
theorem me_X12_ask : mV iX12_ask 2 := ⟨⟨by decide +kernel, rfl, qi_X12, qo_X12_ask, rfl, rfl, ⟨by decide +kernel, by decide +kernel⟩, by decide +kernel⟩, qv_X12_ask, qe_X12_ask⟩
theorem me_X12_trace : mV iX12_trace 1 := ⟨⟨by decide +kernel, rfl, qi_X12, qo_X12_trace, rfl, rfl, ⟨by decide +kernel, by decide +kernel⟩, by decide +kernel⟩, qv_X12_trace, qe_X12_trace⟩
theorem me_X12_count : mV iX12_count 1 := ⟨⟨by decide +kernel, rfl, qi_X12, qo_X12_count, rfl, rfl, ⟨by decide +kernel, by decide +kernel⟩, by decide +kernel⟩, qv_X12_count, qe_X12_count⟩
theorem me_X12_status : mV iX12_status 0 := ⟨⟨by decide +kernel, rfl, qi_X12, qo_X12_status, rfl, rfl, ⟨by decide +kernel, by decide +kernel⟩, by decide +kernel⟩, qv_X12_status, qe_X12_status⟩
theorem me_J6_bitCount_0f7a4 : mS iJ6_bitCount_0f7a4 1 := ⟨⟨by decide +kernel, rfl, qi_J6, qo_J6_bitCount_0f7a4, rfl, rfl, ⟨by decide +kernel, by decide +kernel⟩, by decide +kernel⟩, qt_J6_bitCount_0f7a4⟩
theorem me_J0_length_8abf5 : mV iJ0_length_8abf5 0 := ⟨⟨by decide +kernel, rfl, qi_J0, qo_J0_length_8abf5, rfl, rfl, ⟨by decide +kernel, by decide +kernel⟩, by decide +kernel⟩, qv_J0_length_8abf5, qe_J0_length_8abf5⟩
theorem me_J0_charAt_5068e : mV iJ0_charAt_5068e 1 := ⟨⟨by decide +kernel, rfl, qi_J0, qo_J0_charAt_5068e, rfl, rfl, ⟨by decide +kernel, by decide +kernel⟩, by decide +kernel⟩, qv_J0_charAt_5068e, qe_J0_charAt_5068e⟩
theorem me_J0_coder_7d493 : mV iJ0_coder_7d493 0 := ⟨⟨by decide +kernel, rfl, qi_J0, qo_J0_coder_7d493, rfl, rfl, ⟨by decide +kernel, by decide +kernel⟩, by decide +kernel⟩, qv_J0_coder_7d493, qe_J0_coder_7d493⟩
theorem me_J0_isLatin1_aae02 : mV iJ0_isLatin1_aae02 0 := ⟨⟨by decide +kernel, rfl, qi_J0, qo_J0_isLatin1_aae02, rfl, rfl, ⟨by decide +kernel, by decide +kernel⟩, by decide +kernel⟩, qv_J0_isLatin1_aae02, qe_J0_isLatin1_aae02⟩
theorem me_J0_checkIndex_df160 : mS iJ0_checkIndex_df160 2 := ⟨⟨by decide +kernel, rfl, qi_J0, qo_J0_checkIndex_df160, rfl, rfl, ⟨by decide +kernel, by decide +kernel⟩, by decide +kernel⟩, qt_J0_checkIndex_df160⟩
theorem me_J1_charAt_3b067 : mS iJ1_charAt_3b067 2 := ⟨⟨by decide +kernel, rfl, qi_J1, qo_J1_charAt_3b067, rfl, rfl, ⟨by decide +kernel, by decide +kernel⟩, by decide +kernel⟩, qt_J1_charAt_3b067⟩
theorem me_J2_getChar_3b067 : mS iJ2_getChar_3b067 2 := ⟨⟨by decide +kernel, rfl, qi_J2, qo_J2_getChar_3b067, rfl, rfl, ⟨by decide +kernel, by decide +kernel⟩, by decide +kernel⟩, qt_J2_getChar_3b067⟩
theorem me_J2_length_9d52b : mS iJ2_length_9d52b 1 := ⟨⟨by decide +kernel, rfl, qi_J2, qo_J2_length_9d52b, rfl, rfl, ⟨by decide +kernel, by decide +kernel⟩, by decide +kernel⟩, qt_J2_length_9d52b⟩
theorem me_J2_charAt_3b067 : mS iJ2_charAt_3b067 2 := ⟨⟨by decide +kernel, rfl, qi_J2, qo_J2_charAt_3b067, rfl, rfl, ⟨by decide +kernel, by decide +kernel⟩, by decide +kernel⟩, qt_J2_charAt_3b067⟩
theorem me_J2_checkIndex_2214a : mS iJ2_checkIndex_2214a 2 := ⟨⟨by decide +kernel, rfl, qi_J2, qo_J2_checkIndex_2214a, rfl, rfl, ⟨by decide +kernel, by decide +kernel⟩, by decide +kernel⟩, qt_J2_checkIndex_2214a⟩
theorem me_J3_checkIndex_8e157 : mS iJ3_checkIndex_8e157 3 := ⟨⟨by decide +kernel, rfl, qi_J3, qo_J3_checkIndex_8e157, rfl, rfl, ⟨by decide +kernel, by decide +kernel⟩, by decide +kernel⟩, qt_J3_checkIndex_8e157⟩
theorem go_mmax {g : gp} {i : mI} {pc : Nat} {ll : List (Option Value)} {st : List Value} {u : sg} {Q : Option Value → sg → Prop} {n : Nat} {x y : Int32} (hd : decode (mC i) pc = .ok (.invokestatic n, 3)) (hw : Cond.methodLink (mO i) n yJ9_max_7cf53 ∈ TB) (hR : 1 ≤ (mM i).frames ∧ (st.map fun v => v.category).sum + 13 ≤ (mM i).locals) (k : Go g i (pc + 3) ll (.int (if x < y then y else x) :: st) u Q) : Go g i pc ll (.int y :: .int x :: st) u Q := by
  intro p e s m args below meth c C H locs ls hP hS hl
  have C' := C
  obtain ⟨hx, hb, hml, hr2, hlk, hown, hts, hK, hok, hxt⟩ := C
  exact va_mmax hx hb (by rw [hml, hl.1]) hown (hts _ hw) (hts _ qt_J9_max_7cf53) (hts _ qi_J9) (hts _ qo_J9_max_7cf53) hR.1 hR.2 (Nat.zero_le _) (Nat.zero_le _) hd (k p e s m args below meth c C' H locs ls hP hS hl)
theorem go_mabs {g : gp} {i : mI} {pc : Nat} {ll : List (Option Value)} {st : List Value} {u : sg} {Q : Option Value → sg → Prop} {n : Nat} {x : Int32} (hd : decode (mC i) pc = .ok (.invokestatic n, 3)) (hw : Cond.methodLink (mO i) n yJ9_abs_0f7a4 ∈ TB) (hR : 1 ≤ (mM i).frames ∧ (st.map fun v => v.category).sum + 13 ≤ (mM i).locals) (k : Go g i (pc + 3) ll (.int (if 0 ≤ x then x else 0 - x) :: st) u Q) : Go g i pc ll (.int x :: st) u Q := by
  intro p e s m args below meth c C H locs ls hP hS hl
  have C' := C
  obtain ⟨hx, hb, hml, hr2, hlk, hown, hts, hK, hok, hxt⟩ := C
  exact va_mabs hx hb (by rw [hml, hl.1]) hown (hts _ hw) (hts _ qt_J9_abs_0f7a4) (hts _ qi_J9) (hts _ qo_J9_abs_0f7a4) hR.1 hR.2 (Nat.zero_le _) (Nat.zero_le _) hd (k p e s m args below meth c C' H locs ls hP hS hl)
end
