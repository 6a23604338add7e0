section
-- ===== PART A: goes FIRST, ahead of the names: the tables' words, and 'selects' of the private methods out of them =====
/-- a private method of a class that the tables say can be made, by its rows of tables_1 -/
def lw_okq (q : MethodName × Nat) : Prop := (q.1.cls ≠ "java/lang/invoke/MethodHandle" ∧ q.1.cls ≠ "java/lang/invoke/VarHandle") ∧ Cond.instantiable q.1.cls q.2 ∈ tables_1 ∧ Cond.privateMethod q.1 ∈ tables_1 ∧ Cond.instanceMethod q.1 ∈ tables_1
theorem lw_p0 : lw_okq (⟨"FireworkDeeds$Reader", "skipBlanks", "()V"⟩, 8) := ⟨⟨by decide +kernel, by decide +kernel⟩, List.mem_of_getElem? (i := 88) (by decide +kernel), List.mem_of_getElem? (i := 320) (by decide +kernel), List.mem_of_getElem? (i := 321) (by decide +kernel)⟩
theorem lw_p1 : lw_okq (⟨"FireworkDeeds$Reader", "readClause", "(LFireworkDeeds$Bay;)V"⟩, 8) := ⟨⟨by decide +kernel, by decide +kernel⟩, List.mem_of_getElem? (i := 88) (by decide +kernel), List.mem_of_getElem? (i := 324) (by decide +kernel), List.mem_of_getElem? (i := 325) (by decide +kernel)⟩
theorem lw_p2 : lw_okq (⟨"FireworkDeeds$Reader", "fail", "(II)V"⟩, 8) := ⟨⟨by decide +kernel, by decide +kernel⟩, List.mem_of_getElem? (i := 88) (by decide +kernel), List.mem_of_getElem? (i := 328) (by decide +kernel), List.mem_of_getElem? (i := 329) (by decide +kernel)⟩
theorem lw_p3 : lw_okq (⟨"FireworkDeeds$Reader", "readCells", "(LFireworkDeeds$Bay;)V"⟩, 8) := ⟨⟨by decide +kernel, by decide +kernel⟩, List.mem_of_getElem? (i := 88) (by decide +kernel), List.mem_of_getElem? (i := 332) (by decide +kernel), List.mem_of_getElem? (i := 333) (by decide +kernel)⟩
theorem lw_p4 : lw_okq (⟨"FireworkDeeds$Reader", "passWord", "(Z)V"⟩, 8) := ⟨⟨by decide +kernel, by decide +kernel⟩, List.mem_of_getElem? (i := 88) (by decide +kernel), List.mem_of_getElem? (i := 336) (by decide +kernel), List.mem_of_getElem? (i := 337) (by decide +kernel)⟩
theorem lw_p5 : lw_okq (⟨"FireworkDeeds$Reader", "readNumber", "(II)I"⟩, 8) := ⟨⟨by decide +kernel, by decide +kernel⟩, List.mem_of_getElem? (i := 88) (by decide +kernel), List.mem_of_getElem? (i := 340) (by decide +kernel), List.mem_of_getElem? (i := 341) (by decide +kernel)⟩
theorem lw_p6 : lw_okq (⟨"FireworkDeeds$Reader", "passEnd", "()V"⟩, 8) := ⟨⟨by decide +kernel, by decide +kernel⟩, List.mem_of_getElem? (i := 88) (by decide +kernel), List.mem_of_getElem? (i := 344) (by decide +kernel), List.mem_of_getElem? (i := 345) (by decide +kernel)⟩
theorem lw_p7 : lw_okq (⟨"FireworkDeeds$Reader", "readHouse", "(LFireworkDeeds$Bay;)V"⟩, 8) := ⟨⟨by decide +kernel, by decide +kernel⟩, List.mem_of_getElem? (i := 88) (by decide +kernel), List.mem_of_getElem? (i := 348) (by decide +kernel), List.mem_of_getElem? (i := 349) (by decide +kernel)⟩
theorem lw_p8 : lw_okq (⟨"FireworkDeeds$Reader", "readStars", "(LFireworkDeeds$Bay;)I"⟩, 8) := ⟨⟨by decide +kernel, by decide +kernel⟩, List.mem_of_getElem? (i := 88) (by decide +kernel), List.mem_of_getElem? (i := 356) (by decide +kernel), List.mem_of_getElem? (i := 357) (by decide +kernel)⟩
theorem lw_p9 : lw_okq (⟨"FireworkDeeds$Reader", "readSmoke", "(LFireworkDeeds$Bay;)V"⟩, 8) := ⟨⟨by decide +kernel, by decide +kernel⟩, List.mem_of_getElem? (i := 88) (by decide +kernel), List.mem_of_getElem? (i := 368) (by decide +kernel), List.mem_of_getElem? (i := 369) (by decide +kernel)⟩
theorem lw_p10 : lw_okq (⟨"FireworkDeeds$Reader", "readDamp", "(LFireworkDeeds$Bay;)V"⟩, 8) := ⟨⟨by decide +kernel, by decide +kernel⟩, List.mem_of_getElem? (i := 88) (by decide +kernel), List.mem_of_getElem? (i := 372) (by decide +kernel), List.mem_of_getElem? (i := 373) (by decide +kernel)⟩
theorem lw_p11 : lw_okq (⟨"FireworkDeeds$Night", "meet", "(LFireworkDeeds$Bay;II)V"⟩, 8) := ⟨⟨by decide +kernel, by decide +kernel⟩, List.mem_of_getElem? (i := 120) (by decide +kernel), List.mem_of_getElem? (i := 498) (by decide +kernel), List.mem_of_getElem? (i := 499) (by decide +kernel)⟩
theorem lw_p12 : lw_okq (⟨"FireworkDeeds", "refusalOfMinutes", "(I)I"⟩, 16) := ⟨⟨by decide +kernel, by decide +kernel⟩, List.mem_of_getElem? (i := 15) (by decide +kernel), List.mem_of_getElem? (i := 507) (by decide +kernel), List.mem_of_getElem? (i := 508) (by decide +kernel)⟩
theorem lw_p13 : lw_okq (⟨"FireworkDeeds", "changeWeather", "()V"⟩, 16) := ⟨⟨by decide +kernel, by decide +kernel⟩, List.mem_of_getElem? (i := 15) (by decide +kernel), List.mem_of_getElem? (i := 524) (by decide +kernel), List.mem_of_getElem? (i := 525) (by decide +kernel)⟩
theorem lw_p14 : lw_okq (⟨"FireworkDeeds", "draw", "(I)I"⟩, 16) := ⟨⟨by decide +kernel, by decide +kernel⟩, List.mem_of_getElem? (i := 15) (by decide +kernel), List.mem_of_getElem? (i := 528) (by decide +kernel), List.mem_of_getElem? (i := 529) (by decide +kernel)⟩
theorem lw_p15 : lw_okq (⟨"FireworkDeeds$Row", "extend", "(LFireworkDeeds$Bay;LFireworkDeeds$Night;II)Z"⟩, 2) := ⟨⟨by decide +kernel, by decide +kernel⟩, List.mem_of_getElem? (i := 184) (by decide +kernel), List.mem_of_getElem? (i := 559) (by decide +kernel), List.mem_of_getElem? (i := 560) (by decide +kernel)⟩
def lw_privs_1 : List (MethodName × Nat) := [(⟨"FireworkDeeds$Reader", "skipBlanks", "()V"⟩, 8), (⟨"FireworkDeeds$Reader", "readClause", "(LFireworkDeeds$Bay;)V"⟩, 8), (⟨"FireworkDeeds$Reader", "fail", "(II)V"⟩, 8), (⟨"FireworkDeeds$Reader", "readCells", "(LFireworkDeeds$Bay;)V"⟩, 8), (⟨"FireworkDeeds$Reader", "passWord", "(Z)V"⟩, 8), (⟨"FireworkDeeds$Reader", "readNumber", "(II)I"⟩, 8), (⟨"FireworkDeeds$Reader", "passEnd", "()V"⟩, 8), (⟨"FireworkDeeds$Reader", "readHouse", "(LFireworkDeeds$Bay;)V"⟩, 8), (⟨"FireworkDeeds$Reader", "readStars", "(LFireworkDeeds$Bay;)I"⟩, 8), (⟨"FireworkDeeds$Reader", "readSmoke", "(LFireworkDeeds$Bay;)V"⟩, 8), (⟨"FireworkDeeds$Reader", "readDamp", "(LFireworkDeeds$Bay;)V"⟩, 8), (⟨"FireworkDeeds$Night", "meet", "(LFireworkDeeds$Bay;II)V"⟩, 8), (⟨"FireworkDeeds", "refusalOfMinutes", "(I)I"⟩, 16), (⟨"FireworkDeeds", "changeWeather", "()V"⟩, 16), (⟨"FireworkDeeds", "draw", "(I)I"⟩, 16), (⟨"FireworkDeeds$Row", "extend", "(LFireworkDeeds$Bay;LFireworkDeeds$Night;II)Z"⟩, 2)]
theorem lw_r1 : ∀ q ∈ lw_privs_1, lw_okq q := List.forall_mem_cons.mpr ⟨lw_p0, List.forall_mem_cons.mpr ⟨lw_p1, List.forall_mem_cons.mpr ⟨lw_p2, List.forall_mem_cons.mpr ⟨lw_p3, List.forall_mem_cons.mpr ⟨lw_p4, List.forall_mem_cons.mpr ⟨lw_p5, List.forall_mem_cons.mpr ⟨lw_p6, List.forall_mem_cons.mpr ⟨lw_p7, List.forall_mem_cons.mpr ⟨lw_p8, List.forall_mem_cons.mpr ⟨lw_p9, List.forall_mem_cons.mpr ⟨lw_p10, List.forall_mem_cons.mpr ⟨lw_p11, List.forall_mem_cons.mpr ⟨lw_p12, List.forall_mem_cons.mpr ⟨lw_p13, List.forall_mem_cons.mpr ⟨lw_p14, List.forall_mem_cons.mpr ⟨lw_p15, fun _ h => absurd h List.not_mem_nil⟩⟩⟩⟩⟩⟩⟩⟩⟩⟩⟩⟩⟩⟩⟩⟩
theorem lw_p16 : lw_okq (⟨"FireworkDeeds$Row", "fits", "(LFireworkDeeds$Bay;II)Z"⟩, 2) := ⟨⟨by decide +kernel, by decide +kernel⟩, List.mem_of_getElem? (i := 184) (by decide +kernel), List.mem_of_getElem? (i := 563) (by decide +kernel), List.mem_of_getElem? (i := 564) (by decide +kernel)⟩
theorem lw_p17 : lw_okq (⟨"FireworkDeeds$Offers", "askAll", "(LFireworkDeeds$Bay;LFireworkDeeds$Night;)Z"⟩, 2) := ⟨⟨by decide +kernel, by decide +kernel⟩, List.mem_of_getElem? (i := 201) (by decide +kernel), List.mem_of_getElem? (i := 633) (by decide +kernel), List.mem_of_getElem? (i := 634) (by decide +kernel)⟩
theorem lw_p18 : lw_okq (⟨"FireworkDeeds$Offers", "nearestToAsk", "(LFireworkDeeds$Bay;LFireworkDeeds$Night;I)I"⟩, 2) := ⟨⟨by decide +kernel, by decide +kernel⟩, List.mem_of_getElem? (i := 201) (by decide +kernel), List.mem_of_getElem? (i := 637) (by decide +kernel), List.mem_of_getElem? (i := 638) (by decide +kernel)⟩
theorem lw_p19 : lw_okq (⟨"FireworkDeeds$Offers", "ask", "(LFireworkDeeds$Bay;II)V"⟩, 2) := ⟨⟨by decide +kernel, by decide +kernel⟩, List.mem_of_getElem? (i := 201) (by decide +kernel), List.mem_of_getElem? (i := 642) (by decide +kernel), List.mem_of_getElem? (i := 643) (by decide +kernel)⟩
theorem lw_p20 : lw_okq (⟨"FireworkDeeds$Offers", "pair", "(II)V"⟩, 2) := ⟨⟨by decide +kernel, by decide +kernel⟩, List.mem_of_getElem? (i := 201) (by decide +kernel), List.mem_of_getElem? (i := 646) (by decide +kernel), List.mem_of_getElem? (i := 647) (by decide +kernel)⟩
theorem lw_p21 : lw_okq (⟨"FireworkDeeds$Ducks", "alikeAhead", "(I)I"⟩, 3) := ⟨⟨by decide +kernel, by decide +kernel⟩, List.mem_of_getElem? (i := 215) (by decide +kernel), List.mem_of_getElem? (i := 674) (by decide +kernel), List.mem_of_getElem? (i := 675) (by decide +kernel)⟩
theorem lw_p22 : lw_okq (⟨"FireworkDeedsModel", "here", "()I"⟩, 42) := ⟨⟨by decide +kernel, by decide +kernel⟩, List.mem_of_getElem? (i := 714) (by decide +kernel), List.mem_of_getElem? (i := 861) (by decide +kernel), List.mem_of_getElem? (i := 862) (by decide +kernel)⟩
theorem lw_p23 : lw_okq (⟨"FireworkDeedsModel", "takeClause", "()I"⟩, 42) := ⟨⟨by decide +kernel, by decide +kernel⟩, List.mem_of_getElem? (i := 714) (by decide +kernel), List.mem_of_getElem? (i := 865) (by decide +kernel), List.mem_of_getElem? (i := 866) (by decide +kernel)⟩
theorem lw_p24 : lw_okq (⟨"FireworkDeedsModel", "fails", "(II)I"⟩, 42) := ⟨⟨by decide +kernel, by decide +kernel⟩, List.mem_of_getElem? (i := 714) (by decide +kernel), List.mem_of_getElem? (i := 869) (by decide +kernel), List.mem_of_getElem? (i := 870) (by decide +kernel)⟩
theorem lw_p25 : lw_okq (⟨"FireworkDeedsModel", "takeBay", "()I"⟩, 42) := ⟨⟨by decide +kernel, by decide +kernel⟩, List.mem_of_getElem? (i := 714) (by decide +kernel), List.mem_of_getElem? (i := 873) (by decide +kernel), List.mem_of_getElem? (i := 874) (by decide +kernel)⟩
theorem lw_p26 : lw_okq (⟨"FireworkDeedsModel", "into", "([IIII)I"⟩, 42) := ⟨⟨by decide +kernel, by decide +kernel⟩, List.mem_of_getElem? (i := 714) (by decide +kernel), List.mem_of_getElem? (i := 877) (by decide +kernel), List.mem_of_getElem? (i := 878) (by decide +kernel)⟩
theorem lw_p27 : lw_okq (⟨"FireworkDeedsModel", "takeNumber", "(II)I"⟩, 42) := ⟨⟨by decide +kernel, by decide +kernel⟩, List.mem_of_getElem? (i := 714) (by decide +kernel), List.mem_of_getElem? (i := 881) (by decide +kernel), List.mem_of_getElem? (i := 882) (by decide +kernel)⟩
theorem lw_p28 : lw_okq (⟨"FireworkDeedsModel", "takeHouse", "()I"⟩, 42) := ⟨⟨by decide +kernel, by decide +kernel⟩, List.mem_of_getElem? (i := 714) (by decide +kernel), List.mem_of_getElem? (i := 887) (by decide +kernel), List.mem_of_getElem? (i := 888) (by decide +kernel)⟩
theorem lw_p29 : lw_okq (⟨"FireworkDeedsModel", "takeCell", "(I)I"⟩, 42) := ⟨⟨by decide +kernel, by decide +kernel⟩, List.mem_of_getElem? (i := 714) (by decide +kernel), List.mem_of_getElem? (i := 891) (by decide +kernel), List.mem_of_getElem? (i := 892) (by decide +kernel)⟩
theorem lw_p30 : lw_okq (⟨"FireworkDeedsModel", "takeStars", "(I)I"⟩, 42) := ⟨⟨by decide +kernel, by decide +kernel⟩, List.mem_of_getElem? (i := 714) (by decide +kernel), List.mem_of_getElem? (i := 895) (by decide +kernel), List.mem_of_getElem? (i := 896) (by decide +kernel)⟩
theorem lw_p31 : lw_okq (⟨"FireworkDeedsModel", "isStar", "(I)Z"⟩, 42) := ⟨⟨by decide +kernel, by decide +kernel⟩, List.mem_of_getElem? (i := 714) (by decide +kernel), List.mem_of_getElem? (i := 901) (by decide +kernel), List.mem_of_getElem? (i := 902) (by decide +kernel)⟩
def lw_privs_2 : List (MethodName × Nat) := [(⟨"FireworkDeeds$Row", "fits", "(LFireworkDeeds$Bay;II)Z"⟩, 2), (⟨"FireworkDeeds$Offers", "askAll", "(LFireworkDeeds$Bay;LFireworkDeeds$Night;)Z"⟩, 2), (⟨"FireworkDeeds$Offers", "nearestToAsk", "(LFireworkDeeds$Bay;LFireworkDeeds$Night;I)I"⟩, 2), (⟨"FireworkDeeds$Offers", "ask", "(LFireworkDeeds$Bay;II)V"⟩, 2), (⟨"FireworkDeeds$Offers", "pair", "(II)V"⟩, 2), (⟨"FireworkDeeds$Ducks", "alikeAhead", "(I)I"⟩, 3), (⟨"FireworkDeedsModel", "here", "()I"⟩, 42), (⟨"FireworkDeedsModel", "takeClause", "()I"⟩, 42), (⟨"FireworkDeedsModel", "fails", "(II)I"⟩, 42), (⟨"FireworkDeedsModel", "takeBay", "()I"⟩, 42), (⟨"FireworkDeedsModel", "into", "([IIII)I"⟩, 42), (⟨"FireworkDeedsModel", "takeNumber", "(II)I"⟩, 42), (⟨"FireworkDeedsModel", "takeHouse", "()I"⟩, 42), (⟨"FireworkDeedsModel", "takeCell", "(I)I"⟩, 42), (⟨"FireworkDeedsModel", "takeStars", "(I)I"⟩, 42), (⟨"FireworkDeedsModel", "isStar", "(I)Z"⟩, 42)]
theorem lw_r2 : ∀ q ∈ lw_privs_2, lw_okq q := List.forall_mem_cons.mpr ⟨lw_p16, List.forall_mem_cons.mpr ⟨lw_p17, List.forall_mem_cons.mpr ⟨lw_p18, List.forall_mem_cons.mpr ⟨lw_p19, List.forall_mem_cons.mpr ⟨lw_p20, List.forall_mem_cons.mpr ⟨lw_p21, List.forall_mem_cons.mpr ⟨lw_p22, List.forall_mem_cons.mpr ⟨lw_p23, List.forall_mem_cons.mpr ⟨lw_p24, List.forall_mem_cons.mpr ⟨lw_p25, List.forall_mem_cons.mpr ⟨lw_p26, List.forall_mem_cons.mpr ⟨lw_p27, List.forall_mem_cons.mpr ⟨lw_p28, List.forall_mem_cons.mpr ⟨lw_p29, List.forall_mem_cons.mpr ⟨lw_p30, List.forall_mem_cons.mpr ⟨lw_p31, fun _ h => absurd h List.not_mem_nil⟩⟩⟩⟩⟩⟩⟩⟩⟩⟩⟩⟩⟩⟩⟩⟩
theorem lw_p32 : lw_okq (⟨"FireworkDeedsModel", "areLike", "(II)Z"⟩, 42) := ⟨⟨by decide +kernel, by decide +kernel⟩, List.mem_of_getElem? (i := 714) (by decide +kernel), List.mem_of_getElem? (i := 905) (by decide +kernel), List.mem_of_getElem? (i := 906) (by decide +kernel)⟩
theorem lw_p33 : lw_okq (⟨"FireworkDeedsModel", "takeRead", "()V"⟩, 42) := ⟨⟨by decide +kernel, by decide +kernel⟩, List.mem_of_getElem? (i := 714) (by decide +kernel), List.mem_of_getElem? (i := 909) (by decide +kernel), List.mem_of_getElem? (i := 910) (by decide +kernel)⟩
theorem lw_p34 : lw_okq (⟨"FireworkDeedsModel", "contracts", "(Z)I"⟩, 42) := ⟨⟨by decide +kernel, by decide +kernel⟩, List.mem_of_getElem? (i := 714) (by decide +kernel), List.mem_of_getElem? (i := 921) (by decide +kernel), List.mem_of_getElem? (i := 922) (by decide +kernel)⟩
theorem lw_p35 : lw_okq (⟨"FireworkDeedsModel", "isGreen", "(I)Z"⟩, 42) := ⟨⟨by decide +kernel, by decide +kernel⟩, List.mem_of_getElem? (i := 714) (by decide +kernel), List.mem_of_getElem? (i := 928) (by decide +kernel), List.mem_of_getElem? (i := 929) (by decide +kernel)⟩
theorem lw_p36 : lw_okq (⟨"FireworkDeedsModel", "isHouse", "(I)Z"⟩, 42) := ⟨⟨by decide +kernel, by decide +kernel⟩, List.mem_of_getElem? (i := 714) (by decide +kernel), List.mem_of_getElem? (i := 936) (by decide +kernel), List.mem_of_getElem? (i := 937) (by decide +kernel)⟩
theorem lw_p37 : lw_okq (⟨"FireworkDeedsModel", "starNumber", "(I)I"⟩, 42) := ⟨⟨by decide +kernel, by decide +kernel⟩, List.mem_of_getElem? (i := 714) (by decide +kernel), List.mem_of_getElem? (i := 941) (by decide +kernel), List.mem_of_getElem? (i := 942) (by decide +kernel)⟩
theorem lw_p38 : lw_okq (⟨"FireworkDeedsModel", "readAs", "(I)I"⟩, 42) := ⟨⟨by decide +kernel, by decide +kernel⟩, List.mem_of_getElem? (i := 714) (by decide +kernel), List.mem_of_getElem? (i := 945) (by decide +kernel), List.mem_of_getElem? (i := 946) (by decide +kernel)⟩
theorem lw_p39 : lw_okq (⟨"FireworkDeedsModel", "areTwo", "(II)Z"⟩, 42) := ⟨⟨by decide +kernel, by decide +kernel⟩, List.mem_of_getElem? (i := 714) (by decide +kernel), List.mem_of_getElem? (i := 953) (by decide +kernel), List.mem_of_getElem? (i := 954) (by decide +kernel)⟩
theorem lw_p40 : lw_okq (⟨"FireworkDeedsModel", "seers", "(I)I"⟩, 42) := ⟨⟨by decide +kernel, by decide +kernel⟩, List.mem_of_getElem? (i := 714) (by decide +kernel), List.mem_of_getElem? (i := 957) (by decide +kernel), List.mem_of_getElem? (i := 958) (by decide +kernel)⟩
theorem lw_p41 : lw_okq (⟨"FireworkDeedsModel", "overOf", "(I)I"⟩, 42) := ⟨⟨by decide +kernel, by decide +kernel⟩, List.mem_of_getElem? (i := 714) (by decide +kernel), List.mem_of_getElem? (i := 961) (by decide +kernel), List.mem_of_getElem? (i := 962) (by decide +kernel)⟩
theorem lw_p42 : lw_okq (⟨"FireworkDeedsModel", "reach", "(I)I"⟩, 42) := ⟨⟨by decide +kernel, by decide +kernel⟩, List.mem_of_getElem? (i := 714) (by decide +kernel), List.mem_of_getElem? (i := 968) (by decide +kernel), List.mem_of_getElem? (i := 969) (by decide +kernel)⟩
theorem lw_p43 : lw_okq (⟨"FireworkDeedsModel", "isHidden", "(II)Z"⟩, 42) := ⟨⟨by decide +kernel, by decide +kernel⟩, List.mem_of_getElem? (i := 714) (by decide +kernel), List.mem_of_getElem? (i := 972) (by decide +kernel), List.mem_of_getElem? (i := 973) (by decide +kernel)⟩
theorem lw_p44 : lw_okq (⟨"FireworkDeedsModel", "remember", "()V"⟩, 42) := ⟨⟨by decide +kernel, by decide +kernel⟩, List.mem_of_getElem? (i := 714) (by decide +kernel), List.mem_of_getElem? (i := 985) (by decide +kernel), List.mem_of_getElem? (i := 986) (by decide +kernel)⟩
theorem lw_p45 : lw_okq (⟨"FireworkDeedsModel", "lightNow", "(I)V"⟩, 42) := ⟨⟨by decide +kernel, by decide +kernel⟩, List.mem_of_getElem? (i := 714) (by decide +kernel), List.mem_of_getElem? (i := 989) (by decide +kernel), List.mem_of_getElem? (i := 990) (by decide +kernel)⟩
theorem lw_p46 : lw_okq (⟨"FireworkDeedsModel", "holds", "(II)Z"⟩, 42) := ⟨⟨by decide +kernel, by decide +kernel⟩, List.mem_of_getElem? (i := 714) (by decide +kernel), List.mem_of_getElem? (i := 993) (by decide +kernel), List.mem_of_getElem? (i := 994) (by decide +kernel)⟩
theorem lw_p47 : lw_okq (⟨"FireworkDeedsModel", "minutesRefused", "(I)I"⟩, 42) := ⟨⟨by decide +kernel, by decide +kernel⟩, List.mem_of_getElem? (i := 714) (by decide +kernel), List.mem_of_getElem? (i := 1001) (by decide +kernel), List.mem_of_getElem? (i := 1002) (by decide +kernel)⟩
def lw_privs_3 : List (MethodName × Nat) := [(⟨"FireworkDeedsModel", "areLike", "(II)Z"⟩, 42), (⟨"FireworkDeedsModel", "takeRead", "()V"⟩, 42), (⟨"FireworkDeedsModel", "contracts", "(Z)I"⟩, 42), (⟨"FireworkDeedsModel", "isGreen", "(I)Z"⟩, 42), (⟨"FireworkDeedsModel", "isHouse", "(I)Z"⟩, 42), (⟨"FireworkDeedsModel", "starNumber", "(I)I"⟩, 42), (⟨"FireworkDeedsModel", "readAs", "(I)I"⟩, 42), (⟨"FireworkDeedsModel", "areTwo", "(II)Z"⟩, 42), (⟨"FireworkDeedsModel", "seers", "(I)I"⟩, 42), (⟨"FireworkDeedsModel", "overOf", "(I)I"⟩, 42), (⟨"FireworkDeedsModel", "reach", "(I)I"⟩, 42), (⟨"FireworkDeedsModel", "isHidden", "(II)Z"⟩, 42), (⟨"FireworkDeedsModel", "remember", "()V"⟩, 42), (⟨"FireworkDeedsModel", "lightNow", "(I)V"⟩, 42), (⟨"FireworkDeedsModel", "holds", "(II)Z"⟩, 42), (⟨"FireworkDeedsModel", "minutesRefused", "(I)I"⟩, 42)]
theorem lw_r3 : ∀ q ∈ lw_privs_3, lw_okq q := List.forall_mem_cons.mpr ⟨lw_p32, List.forall_mem_cons.mpr ⟨lw_p33, List.forall_mem_cons.mpr ⟨lw_p34, List.forall_mem_cons.mpr ⟨lw_p35, List.forall_mem_cons.mpr ⟨lw_p36, List.forall_mem_cons.mpr ⟨lw_p37, List.forall_mem_cons.mpr ⟨lw_p38, List.forall_mem_cons.mpr ⟨lw_p39, List.forall_mem_cons.mpr ⟨lw_p40, List.forall_mem_cons.mpr ⟨lw_p41, List.forall_mem_cons.mpr ⟨lw_p42, List.forall_mem_cons.mpr ⟨lw_p43, List.forall_mem_cons.mpr ⟨lw_p44, List.forall_mem_cons.mpr ⟨lw_p45, List.forall_mem_cons.mpr ⟨lw_p46, List.forall_mem_cons.mpr ⟨lw_p47, fun _ h => absurd h List.not_mem_nil⟩⟩⟩⟩⟩⟩⟩⟩⟩⟩⟩⟩⟩⟩⟩⟩
theorem lw_p48 : lw_okq (⟨"FireworkDeedsModel", "draw", "(I)I"⟩, 42) := ⟨⟨by decide +kernel, by decide +kernel⟩, List.mem_of_getElem? (i := 714) (by decide +kernel), List.mem_of_getElem? (i := 1022) (by decide +kernel), List.mem_of_getElem? (i := 1023) (by decide +kernel)⟩
theorem lw_p49 : lw_okq (⟨"FireworkDeedsModel", "isSet", "(I)Z"⟩, 42) := ⟨⟨by decide +kernel, by decide +kernel⟩, List.mem_of_getElem? (i := 714) (by decide +kernel), List.mem_of_getElem? (i := 1038) (by decide +kernel), List.mem_of_getElem? (i := 1039) (by decide +kernel)⟩
theorem lw_p50 : lw_okq (⟨"FireworkDeedsModel", "isOrder", "(III)Z"⟩, 42) := ⟨⟨by decide +kernel, by decide +kernel⟩, List.mem_of_getElem? (i := 714) (by decide +kernel), List.mem_of_getElem? (i := 1045) (by decide +kernel), List.mem_of_getElem? (i := 1046) (by decide +kernel)⟩
theorem lw_p51 : lw_okq (⟨"FireworkDeedsModel", "isFarOf", "(II)Z"⟩, 42) := ⟨⟨by decide +kernel, by decide +kernel⟩, List.mem_of_getElem? (i := 714) (by decide +kernel), List.mem_of_getElem? (i := 1060) (by decide +kernel), List.mem_of_getElem? (i := 1061) (by decide +kernel)⟩
theorem lw_p52 : lw_okq (⟨"FireworkDeedsModel", "figuresOf", "(I)I"⟩, 42) := ⟨⟨by decide +kernel, by decide +kernel⟩, List.mem_of_getElem? (i := 714) (by decide +kernel), List.mem_of_getElem? (i := 1076) (by decide +kernel), List.mem_of_getElem? (i := 1077) (by decide +kernel)⟩
theorem lw_p53 : lw_okq (⟨"FireworkDeedsModel", "nearest", "(I)I"⟩, 42) := ⟨⟨by decide +kernel, by decide +kernel⟩, List.mem_of_getElem? (i := 714) (by decide +kernel), List.mem_of_getElem? (i := 1090) (by decide +kernel), List.mem_of_getElem? (i := 1091) (by decide +kernel)⟩
theorem lw_p54 : lw_okq (⟨"FireworkDeedsModel", "ask", "(II)V"⟩, 42) := ⟨⟨by decide +kernel, by decide +kernel⟩, List.mem_of_getElem? (i := 714) (by decide +kernel), List.mem_of_getElem? (i := 1094) (by decide +kernel), List.mem_of_getElem? (i := 1095) (by decide +kernel)⟩
theorem lw_p55 : lw_okq (⟨"FireworkDeedsModel", "isKeptOf", "(III)Z"⟩, 42) := ⟨⟨by decide +kernel, by decide +kernel⟩, List.mem_of_getElem? (i := 714) (by decide +kernel), List.mem_of_getElem? (i := 1098) (by decide +kernel), List.mem_of_getElem? (i := 1099) (by decide +kernel)⟩
theorem lw_p56 : lw_okq (⟨"FireworkDeedsModel", "litOver", "(I)I"⟩, 42) := ⟨⟨by decide +kernel, by decide +kernel⟩, List.mem_of_getElem? (i := 714) (by decide +kernel), List.mem_of_getElem? (i := 1111) (by decide +kernel), List.mem_of_getElem? (i := 1112) (by decide +kernel)⟩
def lw_privs_4 : List (MethodName × Nat) := [(⟨"FireworkDeedsModel", "draw", "(I)I"⟩, 42), (⟨"FireworkDeedsModel", "isSet", "(I)Z"⟩, 42), (⟨"FireworkDeedsModel", "isOrder", "(III)Z"⟩, 42), (⟨"FireworkDeedsModel", "isFarOf", "(II)Z"⟩, 42), (⟨"FireworkDeedsModel", "figuresOf", "(I)I"⟩, 42), (⟨"FireworkDeedsModel", "nearest", "(I)I"⟩, 42), (⟨"FireworkDeedsModel", "ask", "(II)V"⟩, 42), (⟨"FireworkDeedsModel", "isKeptOf", "(III)Z"⟩, 42), (⟨"FireworkDeedsModel", "litOver", "(I)I"⟩, 42)]
theorem lw_r4 : ∀ q ∈ lw_privs_4, lw_okq q := List.forall_mem_cons.mpr ⟨lw_p48, List.forall_mem_cons.mpr ⟨lw_p49, List.forall_mem_cons.mpr ⟨lw_p50, List.forall_mem_cons.mpr ⟨lw_p51, List.forall_mem_cons.mpr ⟨lw_p52, List.forall_mem_cons.mpr ⟨lw_p53, List.forall_mem_cons.mpr ⟨lw_p54, List.forall_mem_cons.mpr ⟨lw_p55, List.forall_mem_cons.mpr ⟨lw_p56, fun _ h => absurd h List.not_mem_nil⟩⟩⟩⟩⟩⟩⟩⟩⟩
def lw_privs : List (MethodName × Nat) := lw_privs_1 ++ (lw_privs_2 ++ (lw_privs_3 ++ (lw_privs_4)))
def lw_tbl : List Cond := k2_sels lw_privs ++ tables_1
theorem lw_privs_ok : ∀ q ∈ lw_privs, lw_okq q := by
  show ∀ q ∈ lw_privs_1 ++ (lw_privs_2 ++ (lw_privs_3 ++ (lw_privs_4))), lw_okq q
  exact List.forall_mem_append.mpr ⟨lw_r1, List.forall_mem_append.mpr ⟨lw_r2, List.forall_mem_append.mpr ⟨lw_r3, lw_r4⟩⟩⟩
end
section
/-! ===== BEGIN words of one list among another's, by their places ===== -/
/-! ===== END ===== -/

/-! ===== BEGIN printed: names, fields, word lists, decode rows ===== -/
def RX0 : String := "FireworkDeeds$Bay"
def TX0 : u_T := fun k => match k with
  | 0 => ("FireworkDeeds$Bay", "width", "I", false)
  | 1 => ("FireworkDeeds$Bay", "firstFog", "I", false)
  | 2 => ("FireworkDeeds$Bay", "firstWind", "I", false)
  | 3 => ("FireworkDeeds$Bay", "smoke", "I", false)
  | 4 => ("FireworkDeeds$Bay", "dampPercent", "I", false)
  | 5 => ("FireworkDeeds$Bay", "count", "I", false)
  | 6 => ("FireworkDeeds$Bay", "cell", "[I", true)
  | 7 => ("FireworkDeeds$Bay", "powder", "[I", true)
  | 8 => ("FireworkDeeds$Bay", "firstRockets", "[I", true)
  | _ => ("FireworkDeeds$Bay", "stars", "[I", true)
def tyX0 : Nat → FieldType := fun k => match k with
  | 0 => .int
  | 1 => .int
  | 2 => .int
  | 3 => .int
  | 4 => .int
  | 5 => .int
  | 6 => .array .int
  | 7 => .array .int
  | 8 => .array .int
  | _ => .array .int
abbrev wsX00 : List Cond := u_ws RX0 TX0 10
theorem nmX0 : ∀ a, a < 10 → ∀ b, b < 10 → a ≠ b → (TX0 a).2.1 ≠ (TX0 b).2.1 := by decide +kernel
theorem tyX0_ok : ∀ k, k < 10 → parseFieldDescriptor (TX0 k).2.2.1 = some (tyX0 k) := by decide +kernel
abbrev cX0_init : ByteArray := prog_2_method_1_code
def yX0_init : MethodName := ⟨RX0, "<init>", "()V"⟩
abbrev cX0_empty : ByteArray := prog_2_method_2_code
def yX0_empty : MethodName := ⟨RX0, "empty", "()V"⟩
abbrev cX0_settle : ByteArray := prog_2_method_3_code
def yX0_settle : MethodName := ⟨RX0, "settle", "(IIII)V"⟩
abbrev cX0_has : ByteArray := prog_2_method_4_code
def yX0_has : MethodName := ⟨RX0, "has", "(I)Z"⟩
abbrev cX0_hasTwo : ByteArray := prog_2_method_5_code
def yX0_hasTwo : MethodName := ⟨RX0, "hasTwo", "(II)Z"⟩
abbrev cX0_hasAll : ByteArray := prog_2_method_6_code
def yX0_hasAll : MethodName := ⟨RX0, "hasAll", "(I)Z"⟩
abbrev cX0_apart : ByteArray := prog_2_method_7_code
def yX0_apart : MethodName := ⟨RX0, "apart", "(II)I"⟩
abbrev cX0_houseOn : ByteArray := prog_2_method_8_code
def yX0_houseOn : MethodName := ⟨RX0, "houseOn", "(I)I"⟩
abbrev cX0_houseOfStars : ByteArray := prog_2_method_9_code
def yX0_houseOfStars : MethodName := ⟨RX0, "houseOfStars", "(I)I"⟩
abbrev cX0_anyGreen : ByteArray := prog_2_method_10_code
def yX0_anyGreen : MethodName := ⟨RX0, "anyGreen", "(II)Z"⟩
abbrev cX0_readAs : ByteArray := prog_2_method_11_code
def yX0_readAs : MethodName := ⟨RX0, "readAs", "(I)I"⟩
def RX1 : String := "FireworkDeeds$Book"
def TX1 : u_T := fun k => match k with
  | 0 => ("FireworkDeeds$Book", "count", "I", false)
  | 1 => ("FireworkDeeds$Book", "first", "[I", true)
  | 2 => ("FireworkDeeds$Book", "second", "[I", true)
  | _ => ("FireworkDeeds$Book", "toldToHold", "[Z", true)
def tyX1 : Nat → FieldType := fun k => match k with
  | 0 => .int
  | 1 => .array .int
  | 2 => .array .int
  | _ => .array .boolean
abbrev wsX10 : List Cond := u_ws RX1 TX1 4
theorem nmX1 : ∀ a, a < 4 → ∀ b, b < 4 → a ≠ b → (TX1 a).2.1 ≠ (TX1 b).2.1 := by decide +kernel
theorem tyX1_ok : ∀ k, k < 4 → parseFieldDescriptor (TX1 k).2.2.1 = some (tyX1 k) := by decide +kernel
abbrev cX1_init : ByteArray := prog_3_method_1_code
def yX1_init : MethodName := ⟨RX1, "<init>", "()V"⟩
abbrev cX1_add : ByteArray := prog_3_method_2_code
def yX1_add : MethodName := ⟨RX1, "add", "(IIZ)V"⟩
abbrev cX1_firstWrong : ByteArray := prog_3_method_3_code
def yX1_firstWrong : MethodName := ⟨RX1, "firstWrong", "(LFireworkDeeds$Night;)I"⟩
def RX2 : String := "FireworkDeeds$Ducks"
def TX2 : u_T := fun k => match k with
  | 0 => ("FireworkDeeds$Ducks", "count", "I", false)
  | 1 => ("FireworkDeeds$Ducks", "minute", "[I", true)
  | _ => ("FireworkDeeds$Ducks", "cell", "[I", true)
def tyX2 : Nat → FieldType := fun k => match k with
  | 0 => .int
  | 1 => .array .int
  | _ => .array .int
abbrev wsX20 : List Cond := u_ws RX2 TX2 3
theorem nmX2 : ∀ a, a < 3 → ∀ b, b < 3 → a ≠ b → (TX2 a).2.1 ≠ (TX2 b).2.1 := by decide +kernel
theorem tyX2_ok : ∀ k, k < 3 → parseFieldDescriptor (TX2 k).2.2.1 = some (tyX2 k) := by decide +kernel
abbrev cX2_init : ByteArray := prog_4_method_1_code
def yX2_init : MethodName := ⟨RX2, "<init>", "()V"⟩
abbrev cX2_add : ByteArray := prog_4_method_2_code
def yX2_add : MethodName := ⟨RX2, "add", "(II)V"⟩
abbrev cX2_ways : ByteArray := prog_4_method_3_code
def yX2_ways : MethodName := ⟨RX2, "ways", "(LFireworkDeeds$Bay;LFireworkDeeds$Night;)I"⟩
abbrev cX2_alikeAhead : ByteArray := prog_4_method_4_code
def yX2_alikeAhead : MethodName := ⟨RX2, "alikeAhead", "(I)I"⟩
def RX3 : String := "FireworkDeeds$Night"
def TX3 : u_T := fun k => match k with
  | 0 => ("FireworkDeeds$Night", "minutes", "I", false)
  | 1 => ("FireworkDeeds$Night", "fog", "I", false)
  | 2 => ("FireworkDeeds$Night", "wind", "I", false)
  | 3 => ("FireworkDeeds$Night", "holds", "I", false)
  | 4 => ("FireworkDeeds$Night", "rockets", "[I", true)
  | 5 => ("FireworkDeeds$Night", "signedAt", "[I", true)
  | 6 => ("FireworkDeeds$Night", "signedOver", "[I", true)
  | _ => ("FireworkDeeds$Night", "seenBy", "[I", true)
def tyX3 : Nat → FieldType := fun k => match k with
  | 0 => .int
  | 1 => .int
  | 2 => .int
  | 3 => .int
  | 4 => .array .int
  | 5 => .array .int
  | 6 => .array .int
  | _ => .array .int
abbrev wsX30 : List Cond := u_ws RX3 TX3 8
theorem nmX3 : ∀ a, a < 8 → ∀ b, b < 8 → a ≠ b → (TX3 a).2.1 ≠ (TX3 b).2.1 := by decide +kernel
theorem tyX3_ok : ∀ k, k < 8 → parseFieldDescriptor (TX3 k).2.2.1 = some (tyX3 k) := by decide +kernel
abbrev cX3_init : ByteArray := prog_5_method_1_code
def yX3_init : MethodName := ⟨RX3, "<init>", "()V"⟩
abbrev cX3_begin : ByteArray := prog_5_method_2_code
def yX3_begin : MethodName := ⟨RX3, "begin", "(LFireworkDeeds$Bay;)V"⟩
abbrev cX3_become : ByteArray := prog_5_method_3_code
def yX3_become : MethodName := ⟨RX3, "become", "(LFireworkDeeds$Night;)V"⟩
abbrev cX3_signedAs : ByteArray := prog_5_method_4_code
def yX3_signedAs : MethodName := ⟨RX3, "signedAs", "(ILFireworkDeeds$Night;)V"⟩
abbrev cX3_cellOver : ByteArray := prog_5_method_5_code
def yX3_cellOver : MethodName := ⟨RX3, "cellOver", "(LFireworkDeeds$Bay;I)I"⟩
abbrev cX3_housesOver : ByteArray := prog_5_method_6_code
def yX3_housesOver : MethodName := ⟨RX3, "housesOver", "(LFireworkDeeds$Bay;I)I"⟩
abbrev cX3_reach : ByteArray := prog_5_method_7_code
def yX3_reach : MethodName := ⟨RX3, "reach", "(LFireworkDeeds$Bay;I)I"⟩
abbrev cX3_inReach : ByteArray := prog_5_method_8_code
def yX3_inReach : MethodName := ⟨RX3, "inReach", "(LFireworkDeeds$Bay;I)I"⟩
abbrev cX3_hidden : ByteArray := prog_5_method_9_code
def yX3_hidden : MethodName := ⟨RX3, "hidden", "(LFireworkDeeds$Bay;I)Z"⟩
abbrev cX3_viewers : ByteArray := prog_5_method_10_code
def yX3_viewers : MethodName := ⟨RX3, "viewers", "(LFireworkDeeds$Bay;I)I"⟩
abbrev cX3_sign : ByteArray := prog_5_method_11_code
def yX3_sign : MethodName := ⟨RX3, "sign", "(LFireworkDeeds$Bay;I)V"⟩
abbrev cX3_agree : ByteArray := prog_5_method_12_code
def yX3_agree : MethodName := ⟨RX3, "agree", "(LFireworkDeeds$Bay;I)I"⟩
abbrev cX3_meet : ByteArray := prog_5_method_13_code
def yX3_meet : MethodName := ⟨RX3, "meet", "(LFireworkDeeds$Bay;II)V"⟩
abbrev cX3_holdsFor : ByteArray := prog_5_method_14_code
def yX3_holdsFor : MethodName := ⟨RX3, "holdsFor", "(II)Z"⟩
abbrev cX3_conditionals : ByteArray := prog_5_method_15_code
def yX3_conditionals : MethodName := ⟨RX3, "conditionals", "(LFireworkDeeds$Bay;)I"⟩
abbrev cX3_lackOfPowder : ByteArray := prog_5_method_16_code
def yX3_lackOfPowder : MethodName := ⟨RX3, "lackOfPowder", "(LFireworkDeeds$Bay;II)I"⟩
abbrev cX3_pairBit : ByteArray := prog_5_method_17_code
def yX3_pairBit : MethodName := ⟨RX3, "pairBit", "(II)I"⟩
def RX4 : String := "FireworkDeeds$Offers"
def TX4 : u_T := fun k => match k with
  | 0 => ("FireworkDeeds$Offers", "taken", "[I", true)
  | _ => ("FireworkDeeds$Offers", "refusedBy", "[I", true)
def tyX4 : Nat → FieldType := fun k => match k with
  | 0 => .array .int
  | _ => .array .int
abbrev wsX40 : List Cond := u_ws RX4 TX4 2
theorem nmX4 : ∀ a, a < 2 → ∀ b, b < 2 → a ≠ b → (TX4 a).2.1 ≠ (TX4 b).2.1 := by decide +kernel
theorem tyX4_ok : ∀ k, k < 2 → parseFieldDescriptor (TX4 k).2.2.1 = some (tyX4 k) := by decide +kernel
abbrev cX4_init : ByteArray := prog_6_method_1_code
def yX4_init : MethodName := ⟨RX4, "<init>", "()V"⟩
abbrev cX4_settle : ByteArray := prog_6_method_2_code
def yX4_settle : MethodName := ⟨RX4, "settle", "(LFireworkDeeds$Bay;LFireworkDeeds$Night;)V"⟩
abbrev cX4_askAll : ByteArray := prog_6_method_3_code
def yX4_askAll : MethodName := ⟨RX4, "askAll", "(LFireworkDeeds$Bay;LFireworkDeeds$Night;)Z"⟩
abbrev cX4_nearestToAsk : ByteArray := prog_6_method_4_code
def yX4_nearestToAsk : MethodName := ⟨RX4, "nearestToAsk", "(LFireworkDeeds$Bay;LFireworkDeeds$Night;I)I"⟩
abbrev cX4_ask : ByteArray := prog_6_method_5_code
def yX4_ask : MethodName := ⟨RX4, "ask", "(LFireworkDeeds$Bay;II)V"⟩
abbrev cX4_pair : ByteArray := prog_6_method_6_code
def yX4_pair : MethodName := ⟨RX4, "pair", "(II)V"⟩
abbrev cX4_isNearer : ByteArray := prog_6_method_7_code
def yX4_isNearer : MethodName := ⟨RX4, "isNearer", "(LFireworkDeeds$Bay;III)Z"⟩
def RX5 : String := "FireworkDeeds$Past"
def TX5 : u_T := fun k => match k with
  | 0 => ("FireworkDeeds$Past", "nights", "[LFireworkDeeds$Night;", true)
  | 1 => ("FireworkDeeds$Past", "next", "I", false)
  | _ => ("FireworkDeeds$Past", "count", "I", false)
def tyX5 : Nat → FieldType := fun k => match k with
  | 0 => .array (.object "FireworkDeeds$Night")
  | 1 => .int
  | _ => .int
abbrev wsX50 : List Cond := u_ws RX5 TX5 3
theorem nmX5 : ∀ a, a < 3 → ∀ b, b < 3 → a ≠ b → (TX5 a).2.1 ≠ (TX5 b).2.1 := by decide +kernel
theorem tyX5_ok : ∀ k, k < 3 → parseFieldDescriptor (TX5 k).2.2.1 = some (tyX5 k) := by decide +kernel
abbrev cX5_init : ByteArray := prog_7_method_1_code
def yX5_init : MethodName := ⟨RX5, "<init>", "()V"⟩
abbrev cX5_clear : ByteArray := prog_7_method_2_code
def yX5_clear : MethodName := ⟨RX5, "clear", "()V"⟩
abbrev cX5_push : ByteArray := prog_7_method_3_code
def yX5_push : MethodName := ⟨RX5, "push", "(LFireworkDeeds$Night;)V"⟩
abbrev cX5_pop : ByteArray := prog_7_method_4_code
def yX5_pop : MethodName := ⟨RX5, "pop", "(LFireworkDeeds$Night;)V"⟩
def RX6 : String := "FireworkDeeds$Reader"
def TX6 : u_T := fun k => match k with
  | 0 => ("FireworkDeeds$Reader", "text", "[I", false)
  | 1 => ("FireworkDeeds$Reader", "length", "I", false)
  | 2 => ("FireworkDeeds$Reader", "at", "I", false)
  | 3 => ("FireworkDeeds$Reader", "numberAt", "I", false)
  | 4 => ("FireworkDeeds$Reader", "faultNumber", "I", false)
  | 5 => ("FireworkDeeds$Reader", "faultAt", "I", false)
  | 6 => ("FireworkDeeds$Reader", "smokeTold", "Z", false)
  | _ => ("FireworkDeeds$Reader", "dampTold", "Z", false)
def tyX6 : Nat → FieldType := fun k => match k with
  | 0 => .array .int
  | 1 => .int
  | 2 => .int
  | 3 => .int
  | 4 => .int
  | 5 => .int
  | 6 => .boolean
  | _ => .boolean
abbrev wsX60 : List Cond := u_ws RX6 TX6 8
theorem nmX6 : ∀ a, a < 8 → ∀ b, b < 8 → a ≠ b → (TX6 a).2.1 ≠ (TX6 b).2.1 := by decide +kernel
theorem tyX6_ok : ∀ k, k < 8 → parseFieldDescriptor (TX6 k).2.2.1 = some (tyX6 k) := by decide +kernel
abbrev cX6_init : ByteArray := prog_8_method_1_code
def yX6_init : MethodName := ⟨RX6, "<init>", "()V"⟩
abbrev cX6_read : ByteArray := prog_8_method_2_code
def yX6_read : MethodName := ⟨RX6, "read", "([IILFireworkDeeds$Bay;)I"⟩
abbrev cX6_readClause : ByteArray := prog_8_method_3_code
def yX6_readClause : MethodName := ⟨RX6, "readClause", "(LFireworkDeeds$Bay;)V"⟩
abbrev cX6_readCells : ByteArray := prog_8_method_4_code
def yX6_readCells : MethodName := ⟨RX6, "readCells", "(LFireworkDeeds$Bay;)V"⟩
abbrev cX6_readHouse : ByteArray := prog_8_method_5_code
def yX6_readHouse : MethodName := ⟨RX6, "readHouse", "(LFireworkDeeds$Bay;)V"⟩
abbrev cX6_readSmoke : ByteArray := prog_8_method_6_code
def yX6_readSmoke : MethodName := ⟨RX6, "readSmoke", "(LFireworkDeeds$Bay;)V"⟩
abbrev cX6_readDamp : ByteArray := prog_8_method_7_code
def yX6_readDamp : MethodName := ⟨RX6, "readDamp", "(LFireworkDeeds$Bay;)V"⟩
abbrev cX6_passWord : ByteArray := prog_8_method_8_code
def yX6_passWord : MethodName := ⟨RX6, "passWord", "(Z)V"⟩
abbrev cX6_passEnd : ByteArray := prog_8_method_9_code
def yX6_passEnd : MethodName := ⟨RX6, "passEnd", "()V"⟩
abbrev cX6_readNumber : ByteArray := prog_8_method_10_code
def yX6_readNumber : MethodName := ⟨RX6, "readNumber", "(II)I"⟩
abbrev cX6_readStars : ByteArray := prog_8_method_11_code
def yX6_readStars : MethodName := ⟨RX6, "readStars", "(LFireworkDeeds$Bay;)I"⟩
abbrev cX6_skipBlanks : ByteArray := prog_8_method_12_code
def yX6_skipBlanks : MethodName := ⟨RX6, "skipBlanks", "()V"⟩
abbrev cX6_fail : ByteArray := prog_8_method_13_code
def yX6_fail : MethodName := ⟨RX6, "fail", "(II)V"⟩
def RX7 : String := "FireworkDeeds$Row"
def TX7 : u_T := fun k => match k with
  | 0 => ("FireworkDeeds$Row", "houses", "[I", true)
  | _ => ("FireworkDeeds$Row", "tried", "LFireworkDeeds$Night;", true)
def tyX7 : Nat → FieldType := fun k => match k with
  | 0 => .array .int
  | _ => .object "FireworkDeeds$Night"
abbrev wsX70 : List Cond := u_ws RX7 TX7 2
theorem nmX7 : ∀ a, a < 2 → ∀ b, b < 2 → a ≠ b → (TX7 a).2.1 ≠ (TX7 b).2.1 := by decide +kernel
theorem tyX7_ok : ∀ k, k < 2 → parseFieldDescriptor (TX7 k).2.2.1 = some (tyX7 k) := by decide +kernel
abbrev cX7_init : ByteArray := prog_9_method_1_code
def yX7_init : MethodName := ⟨RX7, "<init>", "()V"⟩
abbrev cX7_find : ByteArray := prog_9_method_2_code
def yX7_find : MethodName := ⟨RX7, "find", "(LFireworkDeeds$Bay;LFireworkDeeds$Night;I)Z"⟩
abbrev cX7_extend : ByteArray := prog_9_method_3_code
def yX7_extend : MethodName := ⟨RX7, "extend", "(LFireworkDeeds$Bay;LFireworkDeeds$Night;II)Z"⟩
abbrev cX7_fits : ByteArray := prog_9_method_4_code
def yX7_fits : MethodName := ⟨RX7, "fits", "(LFireworkDeeds$Bay;II)Z"⟩
def RX8 : String := "FireworkDeeds$Stars"
def TX8 : u_T := fun k => match k with
  | _ => ("", "", "", false)
def tyX8 : Nat → FieldType := fun k => match k with
  | _ => .int
abbrev wsX80 : List Cond := u_ws RX8 TX8 0
theorem nmX8 : ∀ a, a < 0 → ∀ b, b < 0 → a ≠ b → (TX8 a).2.1 ≠ (TX8 b).2.1 := by decide +kernel
theorem tyX8_ok : ∀ k, k < 0 → parseFieldDescriptor (TX8 k).2.2.1 = some (tyX8 k) := by decide +kernel
abbrev cX8_areStars : ByteArray := prog_10_method_2_code
def yX8_areStars : MethodName := ⟨RX8, "areStars", "(I)Z"⟩
abbrev cX8_count : ByteArray := prog_10_method_3_code
def yX8_count : MethodName := ⟨RX8, "count", "(I)I"⟩
abbrev cX8_greens : ByteArray := prog_10_method_4_code
def yX8_greens : MethodName := ⟨RX8, "greens", "(I)I"⟩
abbrev cX8_fromTheEnd : ByteArray := prog_10_method_5_code
def yX8_fromTheEnd : MethodName := ⟨RX8, "fromTheEnd", "(I)I"⟩
abbrev cX8_unlike : ByteArray := prog_10_method_6_code
def yX8_unlike : MethodName := ⟨RX8, "unlike", "(II)I"⟩
def RX9 : String := "FireworkDeeds"
def TX9 : u_T := fun k => match k with
  | 0 => ("FireworkDeeds", "text", "[I", true)
  | 1 => ("FireworkDeeds", "letters", "I", false)
  | 2 => ("FireworkDeeds", "faultAt", "I", false)
  | 3 => ("FireworkDeeds", "shore", "LFireworkDeeds$Bay;", false)
  | 4 => ("FireworkDeeds", "spare", "LFireworkDeeds$Bay;", false)
  | 5 => ("FireworkDeeds", "seed", "I", false)
  | 6 => ("FireworkDeeds", "reader", "LFireworkDeeds$Reader;", true)
  | 7 => ("FireworkDeeds", "now", "LFireworkDeeds$Night;", true)
  | 8 => ("FireworkDeeds", "past", "LFireworkDeeds$Past;", true)
  | 9 => ("FireworkDeeds", "images", "[LFireworkDeeds$Night;", true)
  | 10 => ("FireworkDeeds", "imageKept", "[Z", true)
  | 11 => ("FireworkDeeds", "imageSeed", "[I", true)
  | 12 => ("FireworkDeeds", "row", "LFireworkDeeds$Row;", true)
  | 13 => ("FireworkDeeds", "offers", "LFireworkDeeds$Offers;", true)
  | 14 => ("FireworkDeeds", "ducks", "LFireworkDeeds$Ducks;", true)
  | _ => ("FireworkDeeds", "book", "LFireworkDeeds$Book;", true)
def tyX9 : Nat → FieldType := fun k => match k with
  | 0 => .array .int
  | 1 => .int
  | 2 => .int
  | 3 => .object "FireworkDeeds$Bay"
  | 4 => .object "FireworkDeeds$Bay"
  | 5 => .int
  | 6 => .object "FireworkDeeds$Reader"
  | 7 => .object "FireworkDeeds$Night"
  | 8 => .object "FireworkDeeds$Past"
  | 9 => .array (.object "FireworkDeeds$Night")
  | 10 => .array .boolean
  | 11 => .array .int
  | 12 => .object "FireworkDeeds$Row"
  | 13 => .object "FireworkDeeds$Offers"
  | 14 => .object "FireworkDeeds$Ducks"
  | _ => .object "FireworkDeeds$Book"
abbrev wsX90 : List Cond := u_ws RX9 TX9 16
theorem nmX9 : ∀ a, a < 16 → ∀ b, b < 16 → a ≠ b → (TX9 a).2.1 ≠ (TX9 b).2.1 := by decide +kernel
theorem tyX9_ok : ∀ k, k < 16 → parseFieldDescriptor (TX9 k).2.2.1 = some (tyX9 k) := by decide +kernel
abbrev cX9_init : ByteArray := prog_1_method_1_code
def yX9_init : MethodName := ⟨RX9, "<init>", "()V"⟩
abbrev cX9_feed : ByteArray := prog_1_method_2_code
def yX9_feed : MethodName := ⟨RX9, "feed", "(I)I"⟩
abbrev cX9_bay : ByteArray := prog_1_method_3_code
def yX9_bay : MethodName := ⟨RX9, "bay", "()I"⟩
abbrev cX9_fault : ByteArray := prog_1_method_4_code
def yX9_fault : MethodName := ⟨RX9, "fault", "()I"⟩
abbrev cX9_told : ByteArray := prog_1_method_5_code
def yX9_told : MethodName := ⟨RX9, "told", "(I)I"⟩
abbrev cX9_house : ByteArray := prog_1_method_6_code
def yX9_house : MethodName := ⟨RX9, "house", "(II)I"⟩
abbrev cX9_sees : ByteArray := prog_1_method_7_code
def yX9_sees : MethodName := ⟨RX9, "sees", "(II)I"⟩
abbrev cX9_contract : ByteArray := prog_1_method_8_code
def yX9_contract : MethodName := ⟨RX9, "contract", "(II)I"⟩
abbrev cX9_light : ByteArray := prog_1_method_9_code
def yX9_light : MethodName := ⟨RX9, "light", "(I)I"⟩
abbrev cX9_minute : ByteArray := prog_1_method_10_code
def yX9_minute : MethodName := ⟨RX9, "minute", "(I)I"⟩
abbrev cX9_fog : ByteArray := prog_1_method_11_code
def yX9_fog : MethodName := ⟨RX9, "fog", "(I)I"⟩
abbrev cX9_wind : ByteArray := prog_1_method_12_code
def yX9_wind : MethodName := ⟨RX9, "wind", "(I)I"⟩
abbrev cX9_drift : ByteArray := prog_1_method_13_code
def yX9_drift : MethodName := ⟨RX9, "drift", "(I)I"⟩
abbrev cX9_undo : ByteArray := prog_1_method_14_code
def yX9_undo : MethodName := ⟨RX9, "undo", "()I"⟩
abbrev cX9_order : ByteArray := prog_1_method_15_code
def yX9_order : MethodName := ⟨RX9, "order", "(II)I"⟩
abbrev cX9_signers : ByteArray := prog_1_method_16_code
def yX9_signers : MethodName := ⟨RX9, "signers", "(I)I"⟩
abbrev cX9_farShore : ByteArray := prog_1_method_17_code
def yX9_farShore : MethodName := ⟨RX9, "farShore", "(I)I"⟩
abbrev cX9_cross : ByteArray := prog_1_method_18_code
def yX9_cross : MethodName := ⟨RX9, "cross", "(II)I"⟩
abbrev cX9_treaty : ByteArray := prog_1_method_19_code
def yX9_treaty : MethodName := ⟨RX9, "treaty", "(I)I"⟩
abbrev cX9_forged : ByteArray := prog_1_method_20_code
def yX9_forged : MethodName := ⟨RX9, "forged", "(III)I"⟩
abbrev cX9_damp : ByteArray := prog_1_method_21_code
def yX9_damp : MethodName := ⟨RX9, "damp", "(I)I"⟩
abbrev cX9_partner : ByteArray := prog_1_method_22_code
def yX9_partner : MethodName := ⟨RX9, "partner", "(I)I"⟩
abbrev cX9_duck : ByteArray := prog_1_method_23_code
def yX9_duck : MethodName := ⟨RX9, "duck", "(II)I"⟩
abbrev cX9_lit : ByteArray := prog_1_method_24_code
def yX9_lit : MethodName := ⟨RX9, "lit", "(I)I"⟩
abbrev cX9_write : ByteArray := prog_1_method_25_code
def yX9_write : MethodName := ⟨RX9, "write", "(IIZ)I"⟩
abbrev cX9_tear : ByteArray := prog_1_method_26_code
def yX9_tear : MethodName := ⟨RX9, "tear", "()I"⟩
abbrev cX9_judge : ByteArray := prog_1_method_27_code
def yX9_judge : MethodName := ⟨RX9, "judge", "()I"⟩
abbrev cX9_seed : ByteArray := prog_1_method_28_code
def yX9_seed : MethodName := ⟨RX9, "seed", "(I)I"⟩
abbrev cX9_keep : ByteArray := prog_1_method_29_code
def yX9_keep : MethodName := ⟨RX9, "keep", "(I)I"⟩
abbrev cX9_goBack : ByteArray := prog_1_method_30_code
def yX9_goBack : MethodName := ⟨RX9, "goBack", "(I)I"⟩
abbrev cX9_refusalOfMinutes : ByteArray := prog_1_method_31_code
def yX9_refusalOfMinutes : MethodName := ⟨RX9, "refusalOfMinutes", "(I)I"⟩
abbrev cX9_changeWeather : ByteArray := prog_1_method_32_code
def yX9_changeWeather : MethodName := ⟨RX9, "changeWeather", "()V"⟩
abbrev cX9_draw : ByteArray := prog_1_method_33_code
def yX9_draw : MethodName := ⟨RX9, "draw", "(I)I"⟩
abbrev cX9_cutOdds : ByteArray := prog_1_method_34_code
def yX9_cutOdds : MethodName := ⟨RX9, "cutOdds", "(III)I"⟩
def RX10 : String := "FireworkDeedsModel"
def TX10 : u_T := fun k => match k with
  | 0 => ("FireworkDeedsModel", "wide", "I", false)
  | 1 => ("FireworkDeedsModel", "houses", "I", false)
  | 2 => ("FireworkDeedsModel", "cell", "[I", true)
  | 3 => ("FireworkDeedsModel", "powder", "[I", true)
  | 4 => ("FireworkDeedsModel", "starsMany", "[I", true)
  | 5 => ("FireworkDeedsModel", "stars", "[I", true)
  | 6 => ("FireworkDeedsModel", "smoke", "I", false)
  | 7 => ("FireworkDeedsModel", "damp", "I", false)
  | 8 => ("FireworkDeedsModel", "now", "[I", true)
  | 9 => ("FireworkDeedsModel", "seed", "I", false)
  | 10 => ("FireworkDeedsModel", "text", "[I", true)
  | 11 => ("FireworkDeedsModel", "texted", "I", false)
  | 12 => ("FireworkDeedsModel", "faultPlace", "I", false)
  | 13 => ("FireworkDeedsModel", "at0", "I", false)
  | 14 => ("FireworkDeedsModel", "number", "I", false)
  | 15 => ("FireworkDeedsModel", "numberAt", "I", false)
  | 16 => ("FireworkDeedsModel", "readBay", "[I", true)
  | 17 => ("FireworkDeedsModel", "readHouses", "I", false)
  | 18 => ("FireworkDeedsModel", "readCell", "[I", true)
  | 19 => ("FireworkDeedsModel", "readPowder", "[I", true)
  | 20 => ("FireworkDeedsModel", "readRockets", "[I", true)
  | 21 => ("FireworkDeedsModel", "readMany", "[I", true)
  | 22 => ("FireworkDeedsModel", "readStars", "[I", true)
  | 23 => ("FireworkDeedsModel", "readSmoke", "[I", true)
  | 24 => ("FireworkDeedsModel", "readDamp", "[I", true)
  | 25 => ("FireworkDeedsModel", "hasSmoke", "Z", false)
  | 26 => ("FireworkDeedsModel", "hasDamp", "Z", false)
  | 27 => ("FireworkDeedsModel", "undos", "I", false)
  | 28 => ("FireworkDeedsModel", "past", "[I", true)
  | 29 => ("FireworkDeedsModel", "was", "[I", true)
  | 30 => ("FireworkDeedsModel", "figures", "[I", true)
  | 31 => ("FireworkDeedsModel", "refused", "[I", true)
  | 32 => ("FireworkDeedsModel", "partners", "[I", true)
  | 33 => ("FireworkDeedsModel", "ducks", "I", false)
  | 34 => ("FireworkDeedsModel", "duckMinute", "[I", true)
  | 35 => ("FireworkDeedsModel", "duckCell", "[I", true)
  | 36 => ("FireworkDeedsModel", "booked", "I", false)
  | 37 => ("FireworkDeedsModel", "bookA", "[I", true)
  | 38 => ("FireworkDeedsModel", "bookB", "[I", true)
  | 39 => ("FireworkDeedsModel", "bookHolds", "[Z", true)
  | 40 => ("FireworkDeedsModel", "images", "[I", true)
  | _ => ("FireworkDeedsModel", "isKept", "[Z", true)
def tyX10 : Nat → FieldType := fun k => match k with
  | 0 => .int
  | 1 => .int
  | 2 => .array .int
  | 3 => .array .int
  | 4 => .array .int
  | 5 => .array .int
  | 6 => .int
  | 7 => .int
  | 8 => .array .int
  | 9 => .int
  | 10 => .array .int
  | 11 => .int
  | 12 => .int
  | 13 => .int
  | 14 => .int
  | 15 => .int
  | 16 => .array .int
  | 17 => .int
  | 18 => .array .int
  | 19 => .array .int
  | 20 => .array .int
  | 21 => .array .int
  | 22 => .array .int
  | 23 => .array .int
  | 24 => .array .int
  | 25 => .boolean
  | 26 => .boolean
  | 27 => .int
  | 28 => .array .int
  | 29 => .array .int
  | 30 => .array .int
  | 31 => .array .int
  | 32 => .array .int
  | 33 => .int
  | 34 => .array .int
  | 35 => .array .int
  | 36 => .int
  | 37 => .array .int
  | 38 => .array .int
  | 39 => .array .boolean
  | 40 => .array .int
  | _ => .array .boolean
abbrev wsX100 : List Cond := u_ws RX10 TX10 42
theorem nmX10 : ∀ a, a < 42 → ∀ b, b < 42 → a ≠ b → (TX10 a).2.1 ≠ (TX10 b).2.1 := by decide +kernel
theorem tyX10_ok : ∀ k, k < 42 → parseFieldDescriptor (TX10 k).2.2.1 = some (tyX10 k) := by decide +kernel
abbrev cX10_init : ByteArray := prog_12_method_1_code
def yX10_init : MethodName := ⟨RX10, "<init>", "()V"⟩
abbrev cX10_in : ByteArray := prog_12_method_3_code
def yX10_in : MethodName := ⟨RX10, "in", "(JJJ)Z"⟩
abbrev cX10_has : ByteArray := prog_12_method_4_code
def yX10_has : MethodName := ⟨RX10, "has", "(II)Z"⟩
abbrev cX10_bits : ByteArray := prog_12_method_5_code
def yX10_bits : MethodName := ⟨RX10, "bits", "(I)I"⟩
abbrev cX10_apart : ByteArray := prog_12_method_6_code
def yX10_apart : MethodName := ⟨RX10, "apart", "(II)I"⟩
abbrev cX10_isHouse : ByteArray := prog_12_method_7_code
def yX10_isHouse : MethodName := ⟨RX10, "isHouse", "(I)Z"⟩
abbrev cX10_isSet : ByteArray := prog_12_method_8_code
def yX10_isSet : MethodName := ⟨RX10, "isSet", "(I)Z"⟩
abbrev cX10_feed : ByteArray := prog_12_method_9_code
def yX10_feed : MethodName := ⟨RX10, "feed", "(I)I"⟩
abbrev cX10_here : ByteArray := prog_12_method_10_code
def yX10_here : MethodName := ⟨RX10, "here", "()I"⟩
abbrev cX10_fails : ByteArray := prog_12_method_11_code
def yX10_fails : MethodName := ⟨RX10, "fails", "(II)I"⟩
abbrev cX10_takeNumber : ByteArray := prog_12_method_12_code
def yX10_takeNumber : MethodName := ⟨RX10, "takeNumber", "(II)I"⟩
abbrev cX10_into : ByteArray := prog_12_method_13_code
def yX10_into : MethodName := ⟨RX10, "into", "([IIII)I"⟩
abbrev cX10_takeBay : ByteArray := prog_12_method_14_code
def yX10_takeBay : MethodName := ⟨RX10, "takeBay", "()I"⟩
abbrev cX10_takeCell : ByteArray := prog_12_method_15_code
def yX10_takeCell : MethodName := ⟨RX10, "takeCell", "(I)I"⟩
abbrev cX10_isStar : ByteArray := prog_12_method_16_code
def yX10_isStar : MethodName := ⟨RX10, "isStar", "(I)Z"⟩
abbrev cX10_areLike : ByteArray := prog_12_method_17_code
def yX10_areLike : MethodName := ⟨RX10, "areLike", "(II)Z"⟩
abbrev cX10_takeStars : ByteArray := prog_12_method_18_code
def yX10_takeStars : MethodName := ⟨RX10, "takeStars", "(I)I"⟩
abbrev cX10_takeHouse : ByteArray := prog_12_method_19_code
def yX10_takeHouse : MethodName := ⟨RX10, "takeHouse", "()I"⟩
abbrev cX10_takeClause : ByteArray := prog_12_method_20_code
def yX10_takeClause : MethodName := ⟨RX10, "takeClause", "()I"⟩
abbrev cX10_takeRead : ByteArray := prog_12_method_21_code
def yX10_takeRead : MethodName := ⟨RX10, "takeRead", "()V"⟩
abbrev cX10_bay : ByteArray := prog_12_method_22_code
def yX10_bay : MethodName := ⟨RX10, "bay", "()I"⟩
abbrev cX10_fault : ByteArray := prog_12_method_23_code
def yX10_fault : MethodName := ⟨RX10, "fault", "()I"⟩
abbrev cX10_isGreen : ByteArray := prog_12_method_24_code
def yX10_isGreen : MethodName := ⟨RX10, "isGreen", "(I)Z"⟩
abbrev cX10_contracts : ByteArray := prog_12_method_25_code
def yX10_contracts : MethodName := ⟨RX10, "contracts", "(Z)I"⟩
abbrev cX10_told : ByteArray := prog_12_method_26_code
def yX10_told : MethodName := ⟨RX10, "told", "(I)I"⟩
abbrev cX10_starNumber : ByteArray := prog_12_method_27_code
def yX10_starNumber : MethodName := ⟨RX10, "starNumber", "(I)I"⟩
abbrev cX10_readAs : ByteArray := prog_12_method_28_code
def yX10_readAs : MethodName := ⟨RX10, "readAs", "(I)I"⟩
abbrev cX10_house : ByteArray := prog_12_method_29_code
def yX10_house : MethodName := ⟨RX10, "house", "(II)I"⟩
abbrev cX10_overOf : ByteArray := prog_12_method_30_code
def yX10_overOf : MethodName := ⟨RX10, "overOf", "(I)I"⟩
abbrev cX10_isHidden : ByteArray := prog_12_method_31_code
def yX10_isHidden : MethodName := ⟨RX10, "isHidden", "(II)Z"⟩
abbrev cX10_reach : ByteArray := prog_12_method_32_code
def yX10_reach : MethodName := ⟨RX10, "reach", "(I)I"⟩
abbrev cX10_seers : ByteArray := prog_12_method_33_code
def yX10_seers : MethodName := ⟨RX10, "seers", "(I)I"⟩
abbrev cX10_areTwo : ByteArray := prog_12_method_34_code
def yX10_areTwo : MethodName := ⟨RX10, "areTwo", "(II)Z"⟩
abbrev cX10_sees : ByteArray := prog_12_method_35_code
def yX10_sees : MethodName := ⟨RX10, "sees", "(II)I"⟩
abbrev cX10_contract : ByteArray := prog_12_method_36_code
def yX10_contract : MethodName := ⟨RX10, "contract", "(II)I"⟩
abbrev cX10_remember : ByteArray := prog_12_method_37_code
def yX10_remember : MethodName := ⟨RX10, "remember", "()V"⟩
abbrev cX10_holds : ByteArray := prog_12_method_38_code
def yX10_holds : MethodName := ⟨RX10, "holds", "(II)Z"⟩
abbrev cX10_lightNow : ByteArray := prog_12_method_39_code
def yX10_lightNow : MethodName := ⟨RX10, "lightNow", "(I)V"⟩
abbrev cX10_light : ByteArray := prog_12_method_40_code
def yX10_light : MethodName := ⟨RX10, "light", "(I)I"⟩
abbrev cX10_minutesRefused : ByteArray := prog_12_method_41_code
def yX10_minutesRefused : MethodName := ⟨RX10, "minutesRefused", "(I)I"⟩
abbrev cX10_minute : ByteArray := prog_12_method_42_code
def yX10_minute : MethodName := ⟨RX10, "minute", "(I)I"⟩
abbrev cX10_fog : ByteArray := prog_12_method_43_code
def yX10_fog : MethodName := ⟨RX10, "fog", "(I)I"⟩
abbrev cX10_wind : ByteArray := prog_12_method_44_code
def yX10_wind : MethodName := ⟨RX10, "wind", "(I)I"⟩
abbrev cX10_draw : ByteArray := prog_12_method_45_code
def yX10_draw : MethodName := ⟨RX10, "draw", "(I)I"⟩
abbrev cX10_drift : ByteArray := prog_12_method_46_code
def yX10_drift : MethodName := ⟨RX10, "drift", "(I)I"⟩
abbrev cX10_undo : ByteArray := prog_12_method_47_code
def yX10_undo : MethodName := ⟨RX10, "undo", "()I"⟩
abbrev cX10_figure : ByteArray := prog_12_method_48_code
def yX10_figure : MethodName := ⟨RX10, "figure", "(III)I"⟩
abbrev cX10_isOrder : ByteArray := prog_12_method_49_code
def yX10_isOrder : MethodName := ⟨RX10, "isOrder", "(III)Z"⟩
abbrev cX10_order : ByteArray := prog_12_method_50_code
def yX10_order : MethodName := ⟨RX10, "order", "(II)I"⟩
abbrev cX10_signers : ByteArray := prog_12_method_51_code
def yX10_signers : MethodName := ⟨RX10, "signers", "(I)I"⟩
abbrev cX10_isFarOf : ByteArray := prog_12_method_52_code
def yX10_isFarOf : MethodName := ⟨RX10, "isFarOf", "(II)Z"⟩
abbrev cX10_farShore : ByteArray := prog_12_method_53_code
def yX10_farShore : MethodName := ⟨RX10, "farShore", "(I)I"⟩
abbrev cX10_cross : ByteArray := prog_12_method_54_code
def yX10_cross : MethodName := ⟨RX10, "cross", "(II)I"⟩
abbrev cX10_treaty : ByteArray := prog_12_method_55_code
def yX10_treaty : MethodName := ⟨RX10, "treaty", "(I)I"⟩
abbrev cX10_figuresOf : ByteArray := prog_12_method_56_code
def yX10_figuresOf : MethodName := ⟨RX10, "figuresOf", "(I)I"⟩
abbrev cX10_forged : ByteArray := prog_12_method_57_code
def yX10_forged : MethodName := ⟨RX10, "forged", "(III)I"⟩
abbrev cX10_damp : ByteArray := prog_12_method_58_code
def yX10_damp : MethodName := ⟨RX10, "damp", "(I)I"⟩
abbrev cX10_nearest : ByteArray := prog_12_method_59_code
def yX10_nearest : MethodName := ⟨RX10, "nearest", "(I)I"⟩
abbrev cX10_isKeptOf : ByteArray := prog_12_method_60_code
def yX10_isKeptOf : MethodName := ⟨RX10, "isKeptOf", "(III)Z"⟩
abbrev cX10_ask : ByteArray := prog_12_method_61_code
def yX10_ask : MethodName := ⟨RX10, "ask", "(II)V"⟩
abbrev cX10_partner : ByteArray := prog_12_method_62_code
def yX10_partner : MethodName := ⟨RX10, "partner", "(I)I"⟩
abbrev cX10_duck : ByteArray := prog_12_method_63_code
def yX10_duck : MethodName := ⟨RX10, "duck", "(II)I"⟩
abbrev cX10_litOver : ByteArray := prog_12_method_64_code
def yX10_litOver : MethodName := ⟨RX10, "litOver", "(I)I"⟩
abbrev cX10_lit : ByteArray := prog_12_method_65_code
def yX10_lit : MethodName := ⟨RX10, "lit", "(I)I"⟩
abbrev cX10_write : ByteArray := prog_12_method_66_code
def yX10_write : MethodName := ⟨RX10, "write", "(IIZ)I"⟩
abbrev cX10_tear : ByteArray := prog_12_method_67_code
def yX10_tear : MethodName := ⟨RX10, "tear", "()I"⟩
abbrev cX10_judge : ByteArray := prog_12_method_68_code
def yX10_judge : MethodName := ⟨RX10, "judge", "()I"⟩
abbrev cX10_seed : ByteArray := prog_12_method_69_code
def yX10_seed : MethodName := ⟨RX10, "seed", "(I)I"⟩
abbrev cX10_keep : ByteArray := prog_12_method_70_code
def yX10_keep : MethodName := ⟨RX10, "keep", "(I)I"⟩
abbrev cX10_goBack : ByteArray := prog_12_method_71_code
def yX10_goBack : MethodName := ⟨RX10, "goBack", "(I)I"⟩
def RJ6 : String := "java/lang/Integer"
def TJ6 : u_T := fun k => match k with
  | _ => ("", "", "", false)
def tyJ6 : Nat → FieldType := fun k => match k with
  | _ => .int
abbrev wsJ60 : List Cond := u_ws RJ6 TJ6 0
theorem nmJ6 : ∀ a, a < 0 → ∀ b, b < 0 → a ≠ b → (TJ6 a).2.1 ≠ (TJ6 b).2.1 := by decide +kernel
theorem tyJ6_ok : ∀ k, k < 0 → parseFieldDescriptor (TJ6 k).2.2.1 = some (tyJ6 k) := by decide +kernel
abbrev cJ6_bitCount_0f7a4 : ByteArray := prog_13_method_49_code
def yJ6_bitCount_0f7a4 : MethodName := ⟨RJ6, "bitCount", "(I)I"⟩
def RJ9 : String := "java/lang/Math"
def TJ9 : u_T := fun k => match k with
  | _ => ("", "", "", false)
def tyJ9 : Nat → FieldType := fun k => match k with
  | _ => .int
abbrev wsJ90 : List Cond := u_ws RJ9 TJ9 0
theorem nmJ9 : ∀ a, a < 0 → ∀ b, b < 0 → a ≠ b → (TJ9 a).2.1 ≠ (TJ9 b).2.1 := by decide +kernel
theorem tyJ9_ok : ∀ k, k < 0 → parseFieldDescriptor (TJ9 k).2.2.1 = some (tyJ9 k) := by decide +kernel
abbrev cJ9_abs_0f7a4 : ByteArray := prog_14_method_59_code
def yJ9_abs_0f7a4 : MethodName := ⟨RJ9, "abs", "(I)I"⟩
abbrev cJ9_max_7cf53 : ByteArray := prog_14_method_65_code
def yJ9_max_7cf53 : MethodName := ⟨RJ9, "max", "(II)I"⟩
abbrev cJ9_min_7cf53 : ByteArray := prog_14_method_69_code
def yJ9_min_7cf53 : MethodName := ⟨RJ9, "min", "(II)I"⟩
def RL : String := "FireworkDeedsLaw"
abbrev cL_law : ByteArray := code
def yL_law : MethodName := ⟨RL, "law", "([I)Z"⟩
theorem inJ6 : ∀ w ∈ wsJ60, w ∈ lw_tbl := by decide +kernel
theorem inJ9 : ∀ w ∈ wsJ90, w ∈ lw_tbl := by decide +kernel
abbrev vwCl : List vw_C := [(RX0, TX0, 10), (RX1, TX1, 4), (RX2, TX2, 3), (RX3, TX3, 8), (RX4, TX4, 2), (RX5, TX5, 3), (RX6, TX6, 8), (RX7, TX7, 2), (RX9, TX9, 16), (RX10, TX10, 42)]
/-- the tables' good words: the words of every contract here -/
def qW : List Cond := lw_tbl.filter goodWord
theorem qW_mem {w : Cond} {i : Nat} (h : lw_tbl[i]? = some w) (hg : goodWord w = true) : w ∈ qW := List.mem_filter.mpr ⟨List.mem_of_getElem? h, hg⟩
theorem qW_tbl {w : Cond} (h : w ∈ qW) : w ∈ lw_tbl := (List.mem_filter.mp h).1
theorem qW_good {w : Cond} (h : w ∈ qW) : goodWord w = true := (List.mem_filter.mp h).2
end
section
theorem wcl_L_7 : Cond.classLink RL 7 RX9 ∈ qW := qW_mem (i := 71) (by decide +kernel) (by decide +kernel)
theorem wis_X9 : Cond.instantiable RX9 16 ∈ qW := qW_mem (i := 72) (by decide +kernel) (by decide +kernel)
theorem win_X9 : Cond.initialized RX9 ∈ qW := qW_mem (i := 58) (by decide +kernel) (by decide +kernel)
theorem wcl_L_10 : Cond.classLink RL 10 RX10 ∈ qW := qW_mem (i := 770) (by decide +kernel) (by decide +kernel)
theorem wis_X10 : Cond.instantiable RX10 42 ∈ qW := qW_mem (i := 771) (by decide +kernel) (by decide +kernel)
theorem win_X10 : Cond.initialized RX10 ∈ qW := qW_mem (i := 67) (by decide +kernel) (by decide +kernel)
theorem wml_L_9 : Cond.methodLink RL 9 yX9_init ∈ qW := qW_mem (i := 73) (by decide +kernel) (by decide +kernel)
theorem wim_X9_init : Cond.instanceMethod yX9_init ∈ qW := qW_mem (i := 74) (by decide +kernel) (by decide +kernel)
theorem wco_X9_init : Cond.code yX9_init cX9_init 2 none ∈ qW := qW_mem (i := 75) (by decide +kernel) (by decide +kernel)
theorem wml_X9_1 : Cond.methodLink RX9 1 objectInit ∈ qW := qW_mem (i := 76) (by decide +kernel) (by decide +kernel)
theorem wim_objInit : Cond.instanceMethod objectInit ∈ qW := qW_mem (i := 77) (by decide +kernel) (by decide +kernel)
theorem wco_objInit : Cond.code objectInit ⟨#[0xb1]⟩ 1 none ∈ qW := qW_mem (i := 78) (by decide +kernel) (by decide +kernel)
theorem wac_int : Cond.arrayClass .int ∈ qW := qW_mem (i := 143) (by decide +kernel) (by decide +kernel)
theorem wfl_X9_9 : Cond.fieldLink RX9 9 "FireworkDeeds" "text" "[I" ∈ qW := qW_mem (i := 309) (by decide +kernel) (by decide +kernel)
theorem wfl_X9_13 : Cond.fieldLink RX9 13 "FireworkDeeds" "letters" "I" ∈ qW := qW_mem (i := 310) (by decide +kernel) (by decide +kernel)
theorem wfl_X9_17 : Cond.fieldLink RX9 17 "FireworkDeeds" "faultAt" "I" ∈ qW := qW_mem (i := 311) (by decide +kernel) (by decide +kernel)
theorem wcl_X9_20 : Cond.classLink RX9 20 RX0 ∈ qW := qW_mem (i := 79) (by decide +kernel) (by decide +kernel)
theorem wis_X0 : Cond.instantiable RX0 10 ∈ qW := qW_mem (i := 80) (by decide +kernel) (by decide +kernel)
theorem win_X0 : Cond.initialized RX0 ∈ qW := qW_mem (i := 59) (by decide +kernel) (by decide +kernel)
theorem wfl_X9_23 : Cond.fieldLink RX9 23 "FireworkDeeds" "shore" "LFireworkDeeds$Bay;" ∈ qW := qW_mem (i := 312) (by decide +kernel) (by decide +kernel)
theorem wfl_X9_27 : Cond.fieldLink RX9 27 "FireworkDeeds" "spare" "LFireworkDeeds$Bay;" ∈ qW := qW_mem (i := 313) (by decide +kernel) (by decide +kernel)
theorem wfl_X9_30 : Cond.fieldLink RX9 30 "FireworkDeeds" "seed" "I" ∈ qW := qW_mem (i := 314) (by decide +kernel) (by decide +kernel)
theorem wcl_X9_33 : Cond.classLink RX9 33 RX6 ∈ qW := qW_mem (i := 144) (by decide +kernel) (by decide +kernel)
theorem wis_X6 : Cond.instantiable RX6 8 ∈ qW := qW_mem (i := 145) (by decide +kernel) (by decide +kernel)
theorem win_X6 : Cond.initialized RX6 ∈ qW := qW_mem (i := 60) (by decide +kernel) (by decide +kernel)
theorem wfl_X9_36 : Cond.fieldLink RX9 36 "FireworkDeeds" "reader" "LFireworkDeeds$Reader;" ∈ qW := qW_mem (i := 315) (by decide +kernel) (by decide +kernel)
theorem wcl_X9_40 : Cond.classLink RX9 40 RX3 ∈ qW := qW_mem (i := 176) (by decide +kernel) (by decide +kernel)
theorem wis_X3 : Cond.instantiable RX3 8 ∈ qW := qW_mem (i := 177) (by decide +kernel) (by decide +kernel)
theorem win_X3 : Cond.initialized RX3 ∈ qW := qW_mem (i := 61) (by decide +kernel) (by decide +kernel)
theorem wfl_X9_43 : Cond.fieldLink RX9 43 "FireworkDeeds" "now" "LFireworkDeeds$Night;" ∈ qW := qW_mem (i := 316) (by decide +kernel) (by decide +kernel)
theorem wcl_X9_51 : Cond.classLink RX9 51 RX5 ∈ qW := qW_mem (i := 220) (by decide +kernel) (by decide +kernel)
theorem wis_X5 : Cond.instantiable RX5 3 ∈ qW := qW_mem (i := 221) (by decide +kernel) (by decide +kernel)
theorem win_X5 : Cond.initialized RX5 ∈ qW := qW_mem (i := 62) (by decide +kernel) (by decide +kernel)
theorem wfl_X9_54 : Cond.fieldLink RX9 54 "FireworkDeeds" "past" "LFireworkDeeds$Past;" ∈ qW := qW_mem (i := 317) (by decide +kernel) (by decide +kernel)
theorem wfl_X9_58 : Cond.fieldLink RX9 58 "FireworkDeeds" "images" "[LFireworkDeeds$Night;" ∈ qW := qW_mem (i := 318) (by decide +kernel) (by decide +kernel)
theorem wac_boolean : Cond.arrayClass .boolean ∈ qW := qW_mem (i := 256) (by decide +kernel) (by decide +kernel)
theorem wfl_X9_62 : Cond.fieldLink RX9 62 "FireworkDeeds" "imageKept" "[Z" ∈ qW := qW_mem (i := 319) (by decide +kernel) (by decide +kernel)
theorem wfl_X9_66 : Cond.fieldLink RX9 66 "FireworkDeeds" "imageSeed" "[I" ∈ qW := qW_mem (i := 320) (by decide +kernel) (by decide +kernel)
theorem wcl_X9_69 : Cond.classLink RX9 69 RX7 ∈ qW := qW_mem (i := 240) (by decide +kernel) (by decide +kernel)
theorem wis_X7 : Cond.instantiable RX7 2 ∈ qW := qW_mem (i := 241) (by decide +kernel) (by decide +kernel)
theorem win_X7 : Cond.initialized RX7 ∈ qW := qW_mem (i := 63) (by decide +kernel) (by decide +kernel)
theorem wfl_X9_72 : Cond.fieldLink RX9 72 "FireworkDeeds" "row" "LFireworkDeeds$Row;" ∈ qW := qW_mem (i := 321) (by decide +kernel) (by decide +kernel)
theorem wcl_X9_76 : Cond.classLink RX9 76 RX4 ∈ qW := qW_mem (i := 257) (by decide +kernel) (by decide +kernel)
theorem wis_X4 : Cond.instantiable RX4 2 ∈ qW := qW_mem (i := 258) (by decide +kernel) (by decide +kernel)
theorem win_X4 : Cond.initialized RX4 ∈ qW := qW_mem (i := 64) (by decide +kernel) (by decide +kernel)
theorem wfl_X9_79 : Cond.fieldLink RX9 79 "FireworkDeeds" "offers" "LFireworkDeeds$Offers;" ∈ qW := qW_mem (i := 322) (by decide +kernel) (by decide +kernel)
theorem wcl_X9_83 : Cond.classLink RX9 83 RX2 ∈ qW := qW_mem (i := 271) (by decide +kernel) (by decide +kernel)
theorem wis_X2 : Cond.instantiable RX2 3 ∈ qW := qW_mem (i := 272) (by decide +kernel) (by decide +kernel)
theorem win_X2 : Cond.initialized RX2 ∈ qW := qW_mem (i := 65) (by decide +kernel) (by decide +kernel)
theorem wfl_X9_86 : Cond.fieldLink RX9 86 "FireworkDeeds" "ducks" "LFireworkDeeds$Ducks;" ∈ qW := qW_mem (i := 323) (by decide +kernel) (by decide +kernel)
theorem wcl_X9_90 : Cond.classLink RX9 90 RX1 ∈ qW := qW_mem (i := 289) (by decide +kernel) (by decide +kernel)
theorem wis_X1 : Cond.instantiable RX1 4 ∈ qW := qW_mem (i := 290) (by decide +kernel) (by decide +kernel)
theorem win_X1 : Cond.initialized RX1 ∈ qW := qW_mem (i := 66) (by decide +kernel) (by decide +kernel)
theorem wfl_X9_93 : Cond.fieldLink RX9 93 "FireworkDeeds" "book" "LFireworkDeeds$Book;" ∈ qW := qW_mem (i := 324) (by decide +kernel) (by decide +kernel)
theorem wml_X9_22 : Cond.methodLink RX9 22 yX0_init ∈ qW := qW_mem (i := 81) (by decide +kernel) (by decide +kernel)
theorem wim_X0_init : Cond.instanceMethod yX0_init ∈ qW := qW_mem (i := 82) (by decide +kernel) (by decide +kernel)
theorem wco_X0_init : Cond.code yX0_init cX0_init 1 none ∈ qW := qW_mem (i := 83) (by decide +kernel) (by decide +kernel)
theorem wml_X0_3 : Cond.methodLink RX0 3 objectInit ∈ qW := qW_mem (i := 84) (by decide +kernel) (by decide +kernel)
theorem wfl_X0_9 : Cond.fieldLink RX0 9 "FireworkDeeds$Bay" "cell" "[I" ∈ qW := qW_mem (i := 112) (by decide +kernel) (by decide +kernel)
theorem wfl_X0_15 : Cond.fieldLink RX0 15 "FireworkDeeds$Bay" "powder" "[I" ∈ qW := qW_mem (i := 115) (by decide +kernel) (by decide +kernel)
theorem wfl_X0_18 : Cond.fieldLink RX0 18 "FireworkDeeds$Bay" "firstRockets" "[I" ∈ qW := qW_mem (i := 118) (by decide +kernel) (by decide +kernel)
theorem wfl_X0_21 : Cond.fieldLink RX0 21 "FireworkDeeds$Bay" "stars" "[I" ∈ qW := qW_mem (i := 120) (by decide +kernel) (by decide +kernel)
theorem wml_X0_24 : Cond.methodLink RX0 24 yX0_empty ∈ qW := qW_mem (i := 85) (by decide +kernel) (by decide +kernel)
theorem wim_X0_empty : Cond.instanceMethod yX0_empty ∈ qW := qW_mem (i := 86) (by decide +kernel) (by decide +kernel)
theorem wse_X0_empty : Cond.selects RX0 yX0_empty yX0_empty ∈ qW := qW_mem (i := 87) (by decide +kernel) (by decide +kernel)
theorem wco_X0_empty : Cond.code yX0_empty cX0_empty 1 none ∈ qW := qW_mem (i := 88) (by decide +kernel) (by decide +kernel)
theorem wfl_X0_27 : Cond.fieldLink RX0 27 "FireworkDeeds$Bay" "width" "I" ∈ qW := qW_mem (i := 89) (by decide +kernel) (by decide +kernel)
theorem wfl_X0_31 : Cond.fieldLink RX0 31 "FireworkDeeds$Bay" "firstFog" "I" ∈ qW := qW_mem (i := 93) (by decide +kernel) (by decide +kernel)
theorem wfl_X0_34 : Cond.fieldLink RX0 34 "FireworkDeeds$Bay" "firstWind" "I" ∈ qW := qW_mem (i := 96) (by decide +kernel) (by decide +kernel)
theorem wfl_X0_37 : Cond.fieldLink RX0 37 "FireworkDeeds$Bay" "smoke" "I" ∈ qW := qW_mem (i := 99) (by decide +kernel) (by decide +kernel)
theorem wfl_X0_40 : Cond.fieldLink RX0 40 "FireworkDeeds$Bay" "dampPercent" "I" ∈ qW := qW_mem (i := 103) (by decide +kernel) (by decide +kernel)
theorem wfl_X0_43 : Cond.fieldLink RX0 43 "FireworkDeeds$Bay" "count" "I" ∈ qW := qW_mem (i := 107) (by decide +kernel) (by decide +kernel)
theorem wim_X6_init : Cond.instanceMethod yX6_init ∈ qW := qW_mem (i := 147) (by decide +kernel) (by decide +kernel)
theorem wco_X6_init : Cond.code yX6_init cX6_init 1 none ∈ qW := qW_mem (i := 148) (by decide +kernel) (by decide +kernel)
theorem wml_X6_3 : Cond.methodLink RX6 3 objectInit ∈ qW := qW_mem (i := 149) (by decide +kernel) (by decide +kernel)
theorem wfl_X6_9 : Cond.fieldLink RX6 9 "FireworkDeeds$Reader" "text" "[I" ∈ qW := qW_mem (i := 150) (by decide +kernel) (by decide +kernel)
theorem wim_X3_init : Cond.instanceMethod yX3_init ∈ qW := qW_mem (i := 179) (by decide +kernel) (by decide +kernel)
theorem wco_X3_init : Cond.code yX3_init cX3_init 1 none ∈ qW := qW_mem (i := 180) (by decide +kernel) (by decide +kernel)
theorem wml_X3_3 : Cond.methodLink RX3 3 objectInit ∈ qW := qW_mem (i := 181) (by decide +kernel) (by decide +kernel)
theorem wfl_X3_9 : Cond.fieldLink RX3 9 "FireworkDeeds$Night" "rockets" "[I" ∈ qW := qW_mem (i := 191) (by decide +kernel) (by decide +kernel)
theorem wfl_X3_15 : Cond.fieldLink RX3 15 "FireworkDeeds$Night" "signedAt" "[I" ∈ qW := qW_mem (i := 194) (by decide +kernel) (by decide +kernel)
theorem wfl_X3_18 : Cond.fieldLink RX3 18 "FireworkDeeds$Night" "signedOver" "[I" ∈ qW := qW_mem (i := 196) (by decide +kernel) (by decide +kernel)
theorem wfl_X3_21 : Cond.fieldLink RX3 21 "FireworkDeeds$Night" "seenBy" "[I" ∈ qW := qW_mem (i := 198) (by decide +kernel) (by decide +kernel)
theorem wml_X9_47 : Cond.methodLink RX9 47 yX3_begin ∈ qW := qW_mem (i := 216) (by decide +kernel) (by decide +kernel)
theorem wim_X3_begin : Cond.instanceMethod yX3_begin ∈ qW := qW_mem (i := 217) (by decide +kernel) (by decide +kernel)
theorem wse_X3_begin : Cond.selects RX3 yX3_begin yX3_begin ∈ qW := qW_mem (i := 218) (by decide +kernel) (by decide +kernel)
theorem wco_X3_begin : Cond.code yX3_begin cX3_begin 3 none ∈ qW := qW_mem (i := 219) (by decide +kernel) (by decide +kernel)
theorem wfl_X3_24 : Cond.fieldLink RX3 24 "FireworkDeeds$Night" "minutes" "I" ∈ qW := qW_mem (i := 182) (by decide +kernel) (by decide +kernel)
theorem wfl_X3_28 : Cond.fieldLink RX3 28 "FireworkDeeds$Bay" "firstFog" "I" ∈ qW := qW_mem (i := 94) (by decide +kernel) (by decide +kernel)
theorem wfl_X3_33 : Cond.fieldLink RX3 33 "FireworkDeeds$Night" "fog" "I" ∈ qW := qW_mem (i := 185) (by decide +kernel) (by decide +kernel)
theorem wfl_X3_36 : Cond.fieldLink RX3 36 "FireworkDeeds$Bay" "firstWind" "I" ∈ qW := qW_mem (i := 97) (by decide +kernel) (by decide +kernel)
theorem wfl_X3_39 : Cond.fieldLink RX3 39 "FireworkDeeds$Night" "wind" "I" ∈ qW := qW_mem (i := 187) (by decide +kernel) (by decide +kernel)
theorem wfl_X3_42 : Cond.fieldLink RX3 42 "FireworkDeeds$Night" "holds" "I" ∈ qW := qW_mem (i := 189) (by decide +kernel) (by decide +kernel)
theorem wfl_X3_45 : Cond.fieldLink RX3 45 "FireworkDeeds$Bay" "count" "I" ∈ qW := qW_mem (i := 108) (by decide +kernel) (by decide +kernel)
theorem wfl_X3_48 : Cond.fieldLink RX3 48 "FireworkDeeds$Bay" "firstRockets" "[I" ∈ qW := qW_mem (i := 119) (by decide +kernel) (by decide +kernel)
theorem wml_X9_53 : Cond.methodLink RX9 53 yX5_init ∈ qW := qW_mem (i := 222) (by decide +kernel) (by decide +kernel)
theorem wim_X5_init : Cond.instanceMethod yX5_init ∈ qW := qW_mem (i := 223) (by decide +kernel) (by decide +kernel)
theorem wco_X5_init : Cond.code yX5_init cX5_init 2 none ∈ qW := qW_mem (i := 224) (by decide +kernel) (by decide +kernel)
theorem wml_X5_3 : Cond.methodLink RX5 3 objectInit ∈ qW := qW_mem (i := 225) (by decide +kernel) (by decide +kernel)
theorem wcl_X5_9 : Cond.classLink RX5 9 RX3 ∈ qW := qW_mem (i := 226) (by decide +kernel) (by decide +kernel)
theorem wfl_X5_11 : Cond.fieldLink RX5 11 "FireworkDeeds$Past" "nights" "[LFireworkDeeds$Night;" ∈ qW := qW_mem (i := 229) (by decide +kernel) (by decide +kernel)
theorem wim_X7_init : Cond.instanceMethod yX7_init ∈ qW := qW_mem (i := 243) (by decide +kernel) (by decide +kernel)
theorem wco_X7_init : Cond.code yX7_init cX7_init 1 none ∈ qW := qW_mem (i := 244) (by decide +kernel) (by decide +kernel)
theorem wml_X7_3 : Cond.methodLink RX7 3 objectInit ∈ qW := qW_mem (i := 245) (by decide +kernel) (by decide +kernel)
theorem wfl_X7_9 : Cond.fieldLink RX7 9 "FireworkDeeds$Row" "houses" "[I" ∈ qW := qW_mem (i := 248) (by decide +kernel) (by decide +kernel)
theorem wcl_X7_15 : Cond.classLink RX7 15 RX3 ∈ qW := qW_mem (i := 246) (by decide +kernel) (by decide +kernel)
theorem wfl_X7_18 : Cond.fieldLink RX7 18 "FireworkDeeds$Row" "tried" "LFireworkDeeds$Night;" ∈ qW := qW_mem (i := 250) (by decide +kernel) (by decide +kernel)
theorem wim_X4_init : Cond.instanceMethod yX4_init ∈ qW := qW_mem (i := 260) (by decide +kernel) (by decide +kernel)
theorem wco_X4_init : Cond.code yX4_init cX4_init 1 none ∈ qW := qW_mem (i := 261) (by decide +kernel) (by decide +kernel)
theorem wml_X4_3 : Cond.methodLink RX4 3 objectInit ∈ qW := qW_mem (i := 262) (by decide +kernel) (by decide +kernel)
theorem wfl_X4_9 : Cond.fieldLink RX4 9 "FireworkDeeds$Offers" "taken" "[I" ∈ qW := qW_mem (i := 263) (by decide +kernel) (by decide +kernel)
theorem wfl_X4_15 : Cond.fieldLink RX4 15 "FireworkDeeds$Offers" "refusedBy" "[I" ∈ qW := qW_mem (i := 265) (by decide +kernel) (by decide +kernel)
theorem wim_X2_init : Cond.instanceMethod yX2_init ∈ qW := qW_mem (i := 274) (by decide +kernel) (by decide +kernel)
theorem wco_X2_init : Cond.code yX2_init cX2_init 1 none ∈ qW := qW_mem (i := 275) (by decide +kernel) (by decide +kernel)
theorem wml_X2_3 : Cond.methodLink RX2 3 objectInit ∈ qW := qW_mem (i := 276) (by decide +kernel) (by decide +kernel)
theorem wfl_X2_9 : Cond.fieldLink RX2 9 "FireworkDeeds$Ducks" "minute" "[I" ∈ qW := qW_mem (i := 279) (by decide +kernel) (by decide +kernel)
theorem wfl_X2_15 : Cond.fieldLink RX2 15 "FireworkDeeds$Ducks" "cell" "[I" ∈ qW := qW_mem (i := 280) (by decide +kernel) (by decide +kernel)
theorem wim_X1_init : Cond.instanceMethod yX1_init ∈ qW := qW_mem (i := 292) (by decide +kernel) (by decide +kernel)
theorem wco_X1_init : Cond.code yX1_init cX1_init 1 none ∈ qW := qW_mem (i := 293) (by decide +kernel) (by decide +kernel)
theorem wml_X1_3 : Cond.methodLink RX1 3 objectInit ∈ qW := qW_mem (i := 294) (by decide +kernel) (by decide +kernel)
theorem wfl_X1_9 : Cond.fieldLink RX1 9 "FireworkDeeds$Book" "first" "[I" ∈ qW := qW_mem (i := 297) (by decide +kernel) (by decide +kernel)
theorem wfl_X1_15 : Cond.fieldLink RX1 15 "FireworkDeeds$Book" "second" "[I" ∈ qW := qW_mem (i := 298) (by decide +kernel) (by decide +kernel)
theorem wfl_X1_18 : Cond.fieldLink RX1 18 "FireworkDeeds$Book" "toldToHold" "[Z" ∈ qW := qW_mem (i := 299) (by decide +kernel) (by decide +kernel)
theorem wml_L_12 : Cond.methodLink RL 12 yX10_init ∈ qW := qW_mem (i := 772) (by decide +kernel) (by decide +kernel)
theorem wim_X10_init : Cond.instanceMethod yX10_init ∈ qW := qW_mem (i := 773) (by decide +kernel) (by decide +kernel)
theorem wco_X10_init : Cond.code yX10_init cX10_init 1 none ∈ qW := qW_mem (i := 774) (by decide +kernel) (by decide +kernel)
theorem wml_X10_1 : Cond.methodLink RX10 1 objectInit ∈ qW := qW_mem (i := 775) (by decide +kernel) (by decide +kernel)
theorem wfl_X10_7 : Cond.fieldLink RX10 7 "FireworkDeedsModel" "cell" "[I" ∈ qW := qW_mem (i := 778) (by decide +kernel) (by decide +kernel)
theorem wfl_X10_13 : Cond.fieldLink RX10 13 "FireworkDeedsModel" "powder" "[I" ∈ qW := qW_mem (i := 779) (by decide +kernel) (by decide +kernel)
theorem wfl_X10_16 : Cond.fieldLink RX10 16 "FireworkDeedsModel" "starsMany" "[I" ∈ qW := qW_mem (i := 780) (by decide +kernel) (by decide +kernel)
theorem wfl_X10_19 : Cond.fieldLink RX10 19 "FireworkDeedsModel" "stars" "[I" ∈ qW := qW_mem (i := 781) (by decide +kernel) (by decide +kernel)
theorem wfl_X10_22 : Cond.fieldLink RX10 22 "FireworkDeedsModel" "smoke" "I" ∈ qW := qW_mem (i := 782) (by decide +kernel) (by decide +kernel)
theorem wfl_X10_26 : Cond.fieldLink RX10 26 "FireworkDeedsModel" "damp" "I" ∈ qW := qW_mem (i := 783) (by decide +kernel) (by decide +kernel)
theorem wfl_X10_29 : Cond.fieldLink RX10 29 "FireworkDeedsModel" "now" "[I" ∈ qW := qW_mem (i := 784) (by decide +kernel) (by decide +kernel)
theorem wfl_X10_32 : Cond.fieldLink RX10 32 "FireworkDeedsModel" "text" "[I" ∈ qW := qW_mem (i := 786) (by decide +kernel) (by decide +kernel)
theorem wfl_X10_35 : Cond.fieldLink RX10 35 "FireworkDeedsModel" "faultPlace" "I" ∈ qW := qW_mem (i := 788) (by decide +kernel) (by decide +kernel)
theorem wfl_X10_38 : Cond.fieldLink RX10 38 "FireworkDeedsModel" "readBay" "[I" ∈ qW := qW_mem (i := 792) (by decide +kernel) (by decide +kernel)
theorem wfl_X10_41 : Cond.fieldLink RX10 41 "FireworkDeedsModel" "readCell" "[I" ∈ qW := qW_mem (i := 794) (by decide +kernel) (by decide +kernel)
theorem wfl_X10_44 : Cond.fieldLink RX10 44 "FireworkDeedsModel" "readPowder" "[I" ∈ qW := qW_mem (i := 795) (by decide +kernel) (by decide +kernel)
theorem wfl_X10_47 : Cond.fieldLink RX10 47 "FireworkDeedsModel" "readRockets" "[I" ∈ qW := qW_mem (i := 796) (by decide +kernel) (by decide +kernel)
theorem wfl_X10_50 : Cond.fieldLink RX10 50 "FireworkDeedsModel" "readMany" "[I" ∈ qW := qW_mem (i := 797) (by decide +kernel) (by decide +kernel)
theorem wfl_X10_53 : Cond.fieldLink RX10 53 "FireworkDeedsModel" "readStars" "[I" ∈ qW := qW_mem (i := 798) (by decide +kernel) (by decide +kernel)
theorem wfl_X10_56 : Cond.fieldLink RX10 56 "FireworkDeedsModel" "readSmoke" "[I" ∈ qW := qW_mem (i := 799) (by decide +kernel) (by decide +kernel)
theorem wfl_X10_59 : Cond.fieldLink RX10 59 "FireworkDeedsModel" "readDamp" "[I" ∈ qW := qW_mem (i := 800) (by decide +kernel) (by decide +kernel)
theorem wfl_X10_62 : Cond.fieldLink RX10 62 "FireworkDeedsModel" "past" "[I" ∈ qW := qW_mem (i := 804) (by decide +kernel) (by decide +kernel)
theorem wfl_X10_65 : Cond.fieldLink RX10 65 "FireworkDeedsModel" "was" "[I" ∈ qW := qW_mem (i := 805) (by decide +kernel) (by decide +kernel)
theorem wfl_X10_68 : Cond.fieldLink RX10 68 "FireworkDeedsModel" "figures" "[I" ∈ qW := qW_mem (i := 806) (by decide +kernel) (by decide +kernel)
theorem wfl_X10_71 : Cond.fieldLink RX10 71 "FireworkDeedsModel" "refused" "[I" ∈ qW := qW_mem (i := 807) (by decide +kernel) (by decide +kernel)
theorem wfl_X10_74 : Cond.fieldLink RX10 74 "FireworkDeedsModel" "partners" "[I" ∈ qW := qW_mem (i := 808) (by decide +kernel) (by decide +kernel)
theorem wfl_X10_77 : Cond.fieldLink RX10 77 "FireworkDeedsModel" "duckMinute" "[I" ∈ qW := qW_mem (i := 810) (by decide +kernel) (by decide +kernel)
theorem wfl_X10_80 : Cond.fieldLink RX10 80 "FireworkDeedsModel" "duckCell" "[I" ∈ qW := qW_mem (i := 811) (by decide +kernel) (by decide +kernel)
theorem wfl_X10_83 : Cond.fieldLink RX10 83 "FireworkDeedsModel" "bookA" "[I" ∈ qW := qW_mem (i := 813) (by decide +kernel) (by decide +kernel)
theorem wfl_X10_86 : Cond.fieldLink RX10 86 "FireworkDeedsModel" "bookB" "[I" ∈ qW := qW_mem (i := 814) (by decide +kernel) (by decide +kernel)
theorem wfl_X10_89 : Cond.fieldLink RX10 89 "FireworkDeedsModel" "bookHolds" "[Z" ∈ qW := qW_mem (i := 815) (by decide +kernel) (by decide +kernel)
theorem wfl_X10_93 : Cond.fieldLink RX10 93 "FireworkDeedsModel" "images" "[I" ∈ qW := qW_mem (i := 816) (by decide +kernel) (by decide +kernel)
theorem wfl_X10_96 : Cond.fieldLink RX10 96 "FireworkDeedsModel" "isKept" "[Z" ∈ qW := qW_mem (i := 817) (by decide +kernel) (by decide +kernel)
theorem wfl_X10_99 : Cond.fieldLink RX10 99 "FireworkDeedsModel" "wide" "I" ∈ qW := qW_mem (i := 776) (by decide +kernel) (by decide +kernel)
theorem wml_L_13 : Cond.methodLink RL 13 yX9_feed ∈ qW := qW_mem (i := 358) (by decide +kernel) (by decide +kernel)
theorem wim_X9_feed : Cond.instanceMethod yX9_feed ∈ qW := qW_mem (i := 359) (by decide +kernel) (by decide +kernel)
theorem wse_X9_feed : Cond.selects RX9 yX9_feed yX9_feed ∈ qW := qW_mem (i := 360) (by decide +kernel) (by decide +kernel)
theorem wco_X9_feed : Cond.code yX9_feed cX9_feed 2 (some .int) ∈ qW := qW_mem (i := 361) (by decide +kernel) (by decide +kernel)
theorem wk_X9_97 : Cond.constant RX9 97 (-1000000002) ∈ qW := qW_mem (i := 362) (by decide +kernel) (by decide +kernel)
theorem wk_X9_98 : Cond.constant RX9 98 (-1000000004) ∈ qW := qW_mem (i := 363) (by decide +kernel) (by decide +kernel)
theorem wml_L_17 : Cond.methodLink RL 17 yX10_feed ∈ qW := qW_mem (i := 903) (by decide +kernel) (by decide +kernel)
theorem wim_X10_feed : Cond.instanceMethod yX10_feed ∈ qW := qW_mem (i := 904) (by decide +kernel) (by decide +kernel)
theorem wse_X10_feed : Cond.selects RX10 yX10_feed yX10_feed ∈ qW := qW_mem (i := 905) (by decide +kernel) (by decide +kernel)
theorem wco_X10_feed : Cond.code yX10_feed cX10_feed 2 (some .int) ∈ qW := qW_mem (i := 906) (by decide +kernel) (by decide +kernel)
theorem wkl_X10_109 : Cond.constantLong RX10 109 (255) ∈ qW := qW_mem (i := 907) (by decide +kernel) (by decide +kernel)
theorem wk_X10_111 : Cond.constant RX10 111 (-1000000002) ∈ qW := qW_mem (i := 911) (by decide +kernel) (by decide +kernel)
theorem wfl_X10_112 : Cond.fieldLink RX10 112 "FireworkDeedsModel" "texted" "I" ∈ qW := qW_mem (i := 787) (by decide +kernel) (by decide +kernel)
theorem wk_X10_115 : Cond.constant RX10 115 (-1000000004) ∈ qW := qW_mem (i := 912) (by decide +kernel) (by decide +kernel)
theorem wml_X10_105 : Cond.methodLink RX10 105 yX10_in ∈ qW := qW_mem (i := 908) (by decide +kernel) (by decide +kernel)
theorem wst_X10_in : Cond.static yX10_in ∈ qW := qW_mem (i := 909) (by decide +kernel) (by decide +kernel)
theorem wco_X10_in : Cond.code yX10_in cX10_in 6 (some .boolean) ∈ qW := qW_mem (i := 910) (by decide +kernel) (by decide +kernel)
theorem wml_L_18 : Cond.methodLink RL 18 yX9_bay ∈ qW := qW_mem (i := 364) (by decide +kernel) (by decide +kernel)
theorem wim_X9_bay : Cond.instanceMethod yX9_bay ∈ qW := qW_mem (i := 365) (by decide +kernel) (by decide +kernel)
theorem wse_X9_bay : Cond.selects RX9 yX9_bay yX9_bay ∈ qW := qW_mem (i := 366) (by decide +kernel) (by decide +kernel)
theorem wco_X9_bay : Cond.code yX9_bay cX9_bay 4 (some .int) ∈ qW := qW_mem (i := 367) (by decide +kernel) (by decide +kernel)
theorem wfl_X9_107 : Cond.fieldLink RX9 107 "FireworkDeeds$Ducks" "count" "I" ∈ qW := qW_mem (i := 278) (by decide +kernel) (by decide +kernel)
theorem wfl_X9_110 : Cond.fieldLink RX9 110 "FireworkDeeds$Book" "count" "I" ∈ qW := qW_mem (i := 296) (by decide +kernel) (by decide +kernel)
theorem wfl_X9_111 : Cond.fieldLink RX9 111 "FireworkDeeds$Bay" "count" "I" ∈ qW := qW_mem (i := 110) (by decide +kernel) (by decide +kernel)
theorem wml_X9_99 : Cond.methodLink RX9 99 yX6_read ∈ qW := qW_mem (i := 368) (by decide +kernel) (by decide +kernel)
theorem wim_X6_read : Cond.instanceMethod yX6_read ∈ qW := qW_mem (i := 369) (by decide +kernel) (by decide +kernel)
theorem wse_X6_read : Cond.selects RX6 yX6_read yX6_read ∈ qW := qW_mem (i := 370) (by decide +kernel) (by decide +kernel)
theorem wco_X6_read : Cond.code yX6_read cX6_read 5 (some .int) ∈ qW := qW_mem (i := 371) (by decide +kernel) (by decide +kernel)
theorem wml_X6_15 : Cond.methodLink RX6 15 Lib.Math.min.name ∈ qW := qW_mem (i := 372) (by decide +kernel) (by decide +kernel)
theorem wst_Mmin : Cond.static Lib.Math.min.name ∈ qW := qW_mem (i := 373) (by decide +kernel) (by decide +kernel)
theorem win_Math : Cond.initialized "java/lang/Math" ∈ qW := qW_mem (i := 68) (by decide +kernel) (by decide +kernel)
theorem wco_Mmin : Cond.code Lib.Math.min.name Lib.Math.min.code 2 (some .int) ∈ qW := qW_mem (i := 374) (by decide +kernel) (by decide +kernel)
theorem wfl_X6_21 : Cond.fieldLink RX6 21 "FireworkDeeds$Reader" "length" "I" ∈ qW := qW_mem (i := 151) (by decide +kernel) (by decide +kernel)
theorem wfl_X6_25 : Cond.fieldLink RX6 25 "FireworkDeeds$Reader" "at" "I" ∈ qW := qW_mem (i := 152) (by decide +kernel) (by decide +kernel)
theorem wfl_X6_28 : Cond.fieldLink RX6 28 "FireworkDeeds$Reader" "faultNumber" "I" ∈ qW := qW_mem (i := 154) (by decide +kernel) (by decide +kernel)
theorem wfl_X6_31 : Cond.fieldLink RX6 31 "FireworkDeeds$Reader" "faultAt" "I" ∈ qW := qW_mem (i := 155) (by decide +kernel) (by decide +kernel)
theorem wfl_X6_34 : Cond.fieldLink RX6 34 "FireworkDeeds$Reader" "smokeTold" "Z" ∈ qW := qW_mem (i := 157) (by decide +kernel) (by decide +kernel)
theorem wfl_X6_38 : Cond.fieldLink RX6 38 "FireworkDeeds$Reader" "dampTold" "Z" ∈ qW := qW_mem (i := 158) (by decide +kernel) (by decide +kernel)
theorem wml_X6_41 : Cond.methodLink RX6 41 yX0_empty ∈ qW := qW_mem (i := 375) (by decide +kernel) (by decide +kernel)
theorem wml_X6_46 : Cond.methodLink RX6 46 yX6_skipBlanks ∈ qW := qW_mem (i := 376) (by decide +kernel) (by decide +kernel)
theorem wim_X6_skipBlanks : Cond.instanceMethod yX6_skipBlanks ∈ qW := qW_mem (i := 378) (by decide +kernel) (by decide +kernel)
theorem wse_X6_skipBlanks : Cond.selects RX6 yX6_skipBlanks yX6_skipBlanks ∈ qW := qW_mem (i := 0) (by decide +kernel) (by decide +kernel)
theorem wco_X6_skipBlanks : Cond.code yX6_skipBlanks cX6_skipBlanks 1 none ∈ qW := qW_mem (i := 379) (by decide +kernel) (by decide +kernel)
theorem wml_X6_49 : Cond.methodLink RX6 49 yX6_readClause ∈ qW := qW_mem (i := 380) (by decide +kernel) (by decide +kernel)
theorem wim_X6_readClause : Cond.instanceMethod yX6_readClause ∈ qW := qW_mem (i := 382) (by decide +kernel) (by decide +kernel)
theorem wse_X6_readClause : Cond.selects RX6 yX6_readClause yX6_readClause ∈ qW := qW_mem (i := 1) (by decide +kernel) (by decide +kernel)
theorem wco_X6_readClause : Cond.code yX6_readClause cX6_readClause 3 none ∈ qW := qW_mem (i := 383) (by decide +kernel) (by decide +kernel)
theorem wfl_X6_53 : Cond.fieldLink RX6 53 "FireworkDeeds$Bay" "width" "I" ∈ qW := qW_mem (i := 90) (by decide +kernel) (by decide +kernel)
theorem wml_X6_56 : Cond.methodLink RX6 56 yX6_fail ∈ qW := qW_mem (i := 384) (by decide +kernel) (by decide +kernel)
theorem wim_X6_fail : Cond.instanceMethod yX6_fail ∈ qW := qW_mem (i := 386) (by decide +kernel) (by decide +kernel)
theorem wse_X6_fail : Cond.selects RX6 yX6_fail yX6_fail ∈ qW := qW_mem (i := 2) (by decide +kernel) (by decide +kernel)
theorem wco_X6_fail : Cond.code yX6_fail cX6_fail 3 none ∈ qW := qW_mem (i := 387) (by decide +kernel) (by decide +kernel)
theorem wml_X6_60 : Cond.methodLink RX6 60 yX6_readCells ∈ qW := qW_mem (i := 388) (by decide +kernel) (by decide +kernel)
theorem wim_X6_readCells : Cond.instanceMethod yX6_readCells ∈ qW := qW_mem (i := 390) (by decide +kernel) (by decide +kernel)
theorem wse_X6_readCells : Cond.selects RX6 yX6_readCells yX6_readCells ∈ qW := qW_mem (i := 3) (by decide +kernel) (by decide +kernel)
theorem wco_X6_readCells : Cond.code yX6_readCells cX6_readCells 5 none ∈ qW := qW_mem (i := 391) (by decide +kernel) (by decide +kernel)
theorem wfl_X6_82 : Cond.fieldLink RX6 82 "FireworkDeeds$Bay" "firstFog" "I" ∈ qW := qW_mem (i := 95) (by decide +kernel) (by decide +kernel)
theorem wfl_X6_85 : Cond.fieldLink RX6 85 "FireworkDeeds$Bay" "firstWind" "I" ∈ qW := qW_mem (i := 98) (by decide +kernel) (by decide +kernel)
theorem wml_X6_72 : Cond.methodLink RX6 72 yX6_passWord ∈ qW := qW_mem (i := 392) (by decide +kernel) (by decide +kernel)
theorem wim_X6_passWord : Cond.instanceMethod yX6_passWord ∈ qW := qW_mem (i := 394) (by decide +kernel) (by decide +kernel)
theorem wse_X6_passWord : Cond.selects RX6 yX6_passWord yX6_passWord ∈ qW := qW_mem (i := 4) (by decide +kernel) (by decide +kernel)
theorem wco_X6_passWord : Cond.code yX6_passWord cX6_passWord 2 none ∈ qW := qW_mem (i := 395) (by decide +kernel) (by decide +kernel)
theorem wml_X6_76 : Cond.methodLink RX6 76 yX6_readNumber ∈ qW := qW_mem (i := 396) (by decide +kernel) (by decide +kernel)
theorem wim_X6_readNumber : Cond.instanceMethod yX6_readNumber ∈ qW := qW_mem (i := 398) (by decide +kernel) (by decide +kernel)
theorem wse_X6_readNumber : Cond.selects RX6 yX6_readNumber yX6_readNumber ∈ qW := qW_mem (i := 5) (by decide +kernel) (by decide +kernel)
theorem wco_X6_readNumber : Cond.code yX6_readNumber cX6_readNumber 5 (some .int) ∈ qW := qW_mem (i := 399) (by decide +kernel) (by decide +kernel)
theorem wfl_X6_95 : Cond.fieldLink RX6 95 "FireworkDeeds$Reader" "numberAt" "I" ∈ qW := qW_mem (i := 153) (by decide +kernel) (by decide +kernel)
theorem wml_X6_79 : Cond.methodLink RX6 79 yX6_passEnd ∈ qW := qW_mem (i := 400) (by decide +kernel) (by decide +kernel)
theorem wim_X6_passEnd : Cond.instanceMethod yX6_passEnd ∈ qW := qW_mem (i := 402) (by decide +kernel) (by decide +kernel)
theorem wse_X6_passEnd : Cond.selects RX6 yX6_passEnd yX6_passEnd ∈ qW := qW_mem (i := 6) (by decide +kernel) (by decide +kernel)
theorem wco_X6_passEnd : Cond.code yX6_passEnd cX6_passEnd 1 none ∈ qW := qW_mem (i := 403) (by decide +kernel) (by decide +kernel)
theorem wml_X6_63 : Cond.methodLink RX6 63 yX6_readHouse ∈ qW := qW_mem (i := 404) (by decide +kernel) (by decide +kernel)
theorem wim_X6_readHouse : Cond.instanceMethod yX6_readHouse ∈ qW := qW_mem (i := 406) (by decide +kernel) (by decide +kernel)
theorem wse_X6_readHouse : Cond.selects RX6 yX6_readHouse yX6_readHouse ∈ qW := qW_mem (i := 7) (by decide +kernel) (by decide +kernel)
theorem wco_X6_readHouse : Cond.code yX6_readHouse cX6_readHouse 6 none ∈ qW := qW_mem (i := 407) (by decide +kernel) (by decide +kernel)
theorem wfl_X6_88 : Cond.fieldLink RX6 88 "FireworkDeeds$Bay" "count" "I" ∈ qW := qW_mem (i := 111) (by decide +kernel) (by decide +kernel)
theorem wml_X6_91 : Cond.methodLink RX6 91 yX0_houseOn ∈ qW := qW_mem (i := 408) (by decide +kernel) (by decide +kernel)
theorem wim_X0_houseOn : Cond.instanceMethod yX0_houseOn ∈ qW := qW_mem (i := 409) (by decide +kernel) (by decide +kernel)
theorem wse_X0_houseOn : Cond.selects RX0 yX0_houseOn yX0_houseOn ∈ qW := qW_mem (i := 410) (by decide +kernel) (by decide +kernel)
theorem wco_X0_houseOn : Cond.code yX0_houseOn cX0_houseOn 3 (some .int) ∈ qW := qW_mem (i := 411) (by decide +kernel) (by decide +kernel)
theorem wml_X6_98 : Cond.methodLink RX6 98 yX6_readStars ∈ qW := qW_mem (i := 412) (by decide +kernel) (by decide +kernel)
theorem wim_X6_readStars : Cond.instanceMethod yX6_readStars ∈ qW := qW_mem (i := 414) (by decide +kernel) (by decide +kernel)
theorem wse_X6_readStars : Cond.selects RX6 yX6_readStars yX6_readStars ∈ qW := qW_mem (i := 8) (by decide +kernel) (by decide +kernel)
theorem wco_X6_readStars : Cond.code yX6_readStars cX6_readStars 4 (some .int) ∈ qW := qW_mem (i := 415) (by decide +kernel) (by decide +kernel)
theorem wml_X6_112 : Cond.methodLink RX6 112 yX0_houseOfStars ∈ qW := qW_mem (i := 416) (by decide +kernel) (by decide +kernel)
theorem wim_X0_houseOfStars : Cond.instanceMethod yX0_houseOfStars ∈ qW := qW_mem (i := 417) (by decide +kernel) (by decide +kernel)
theorem wse_X0_houseOfStars : Cond.selects RX0 yX0_houseOfStars yX0_houseOfStars ∈ qW := qW_mem (i := 418) (by decide +kernel) (by decide +kernel)
theorem wco_X0_houseOfStars : Cond.code yX0_houseOfStars cX0_houseOfStars 3 (some .int) ∈ qW := qW_mem (i := 419) (by decide +kernel) (by decide +kernel)
theorem wml_X6_102 : Cond.methodLink RX6 102 yX0_settle ∈ qW := qW_mem (i := 420) (by decide +kernel) (by decide +kernel)
theorem wim_X0_settle : Cond.instanceMethod yX0_settle ∈ qW := qW_mem (i := 421) (by decide +kernel) (by decide +kernel)
theorem wse_X0_settle : Cond.selects RX0 yX0_settle yX0_settle ∈ qW := qW_mem (i := 422) (by decide +kernel) (by decide +kernel)
theorem wco_X0_settle : Cond.code yX0_settle cX0_settle 5 none ∈ qW := qW_mem (i := 423) (by decide +kernel) (by decide +kernel)
theorem wml_X6_66 : Cond.methodLink RX6 66 yX6_readSmoke ∈ qW := qW_mem (i := 424) (by decide +kernel) (by decide +kernel)
theorem wim_X6_readSmoke : Cond.instanceMethod yX6_readSmoke ∈ qW := qW_mem (i := 426) (by decide +kernel) (by decide +kernel)
theorem wse_X6_readSmoke : Cond.selects RX6 yX6_readSmoke yX6_readSmoke ∈ qW := qW_mem (i := 9) (by decide +kernel) (by decide +kernel)
theorem wco_X6_readSmoke : Cond.code yX6_readSmoke cX6_readSmoke 3 none ∈ qW := qW_mem (i := 427) (by decide +kernel) (by decide +kernel)
theorem wfl_X6_106 : Cond.fieldLink RX6 106 "FireworkDeeds$Bay" "smoke" "I" ∈ qW := qW_mem (i := 101) (by decide +kernel) (by decide +kernel)
theorem wml_X6_69 : Cond.methodLink RX6 69 yX6_readDamp ∈ qW := qW_mem (i := 428) (by decide +kernel) (by decide +kernel)
theorem wim_X6_readDamp : Cond.instanceMethod yX6_readDamp ∈ qW := qW_mem (i := 430) (by decide +kernel) (by decide +kernel)
theorem wse_X6_readDamp : Cond.selects RX6 yX6_readDamp yX6_readDamp ∈ qW := qW_mem (i := 10) (by decide +kernel) (by decide +kernel)
theorem wco_X6_readDamp : Cond.code yX6_readDamp cX6_readDamp 3 none ∈ qW := qW_mem (i := 431) (by decide +kernel) (by decide +kernel)
theorem wfl_X6_109 : Cond.fieldLink RX6 109 "FireworkDeeds$Bay" "dampPercent" "I" ∈ qW := qW_mem (i := 105) (by decide +kernel) (by decide +kernel)
theorem wml_X9_104 : Cond.methodLink RX9 104 yX5_clear ∈ qW := qW_mem (i := 432) (by decide +kernel) (by decide +kernel)
theorem wim_X5_clear : Cond.instanceMethod yX5_clear ∈ qW := qW_mem (i := 433) (by decide +kernel) (by decide +kernel)
theorem wse_X5_clear : Cond.selects RX5 yX5_clear yX5_clear ∈ qW := qW_mem (i := 434) (by decide +kernel) (by decide +kernel)
theorem wco_X5_clear : Cond.code yX5_clear cX5_clear 1 none ∈ qW := qW_mem (i := 435) (by decide +kernel) (by decide +kernel)
theorem wfl_X5_18 : Cond.fieldLink RX5 18 "FireworkDeeds$Past" "next" "I" ∈ qW := qW_mem (i := 230) (by decide +kernel) (by decide +kernel)
theorem wfl_X5_22 : Cond.fieldLink RX5 22 "FireworkDeeds$Past" "count" "I" ∈ qW := qW_mem (i := 231) (by decide +kernel) (by decide +kernel)
theorem wml_L_22 : Cond.methodLink RL 22 yX10_bay ∈ qW := qW_mem (i := 913) (by decide +kernel) (by decide +kernel)
theorem wim_X10_bay : Cond.instanceMethod yX10_bay ∈ qW := qW_mem (i := 914) (by decide +kernel) (by decide +kernel)
theorem wse_X10_bay : Cond.selects RX10 yX10_bay yX10_bay ∈ qW := qW_mem (i := 915) (by decide +kernel) (by decide +kernel)
theorem wco_X10_bay : Cond.code yX10_bay cX10_bay 2 (some .int) ∈ qW := qW_mem (i := 916) (by decide +kernel) (by decide +kernel)
theorem wfl_X10_116 : Cond.fieldLink RX10 116 "FireworkDeedsModel" "at0" "I" ∈ qW := qW_mem (i := 789) (by decide +kernel) (by decide +kernel)
theorem wfl_X10_156 : Cond.fieldLink RX10 156 "FireworkDeedsModel" "readHouses" "I" ∈ qW := qW_mem (i := 793) (by decide +kernel) (by decide +kernel)
theorem wfl_X10_166 : Cond.fieldLink RX10 166 "FireworkDeedsModel" "hasSmoke" "Z" ∈ qW := qW_mem (i := 801) (by decide +kernel) (by decide +kernel)
theorem wfl_X10_170 : Cond.fieldLink RX10 170 "FireworkDeedsModel" "hasDamp" "Z" ∈ qW := qW_mem (i := 802) (by decide +kernel) (by decide +kernel)
theorem wfl_X10_185 : Cond.fieldLink RX10 185 "FireworkDeedsModel" "ducks" "I" ∈ qW := qW_mem (i := 809) (by decide +kernel) (by decide +kernel)
theorem wfl_X10_188 : Cond.fieldLink RX10 188 "FireworkDeedsModel" "booked" "I" ∈ qW := qW_mem (i := 812) (by decide +kernel) (by decide +kernel)
theorem wfl_X10_191 : Cond.fieldLink RX10 191 "FireworkDeedsModel" "undos" "I" ∈ qW := qW_mem (i := 803) (by decide +kernel) (by decide +kernel)
theorem wfl_X10_102 : Cond.fieldLink RX10 102 "FireworkDeedsModel" "houses" "I" ∈ qW := qW_mem (i := 777) (by decide +kernel) (by decide +kernel)
theorem wml_X10_119 : Cond.methodLink RX10 119 yX10_here ∈ qW := qW_mem (i := 917) (by decide +kernel) (by decide +kernel)
theorem wim_X10_here : Cond.instanceMethod yX10_here ∈ qW := qW_mem (i := 919) (by decide +kernel) (by decide +kernel)
theorem wse_X10_here : Cond.selects RX10 yX10_here yX10_here ∈ qW := qW_mem (i := 22) (by decide +kernel) (by decide +kernel)
theorem wco_X10_here : Cond.code yX10_here cX10_here 1 (some .int) ∈ qW := qW_mem (i := 920) (by decide +kernel) (by decide +kernel)
theorem wml_X10_179 : Cond.methodLink RX10 179 yX10_takeClause ∈ qW := qW_mem (i := 921) (by decide +kernel) (by decide +kernel)
theorem wim_X10_takeClause : Cond.instanceMethod yX10_takeClause ∈ qW := qW_mem (i := 923) (by decide +kernel) (by decide +kernel)
theorem wse_X10_takeClause : Cond.selects RX10 yX10_takeClause yX10_takeClause ∈ qW := qW_mem (i := 23) (by decide +kernel) (by decide +kernel)
theorem wco_X10_takeClause : Cond.code yX10_takeClause cX10_takeClause 5 (some .int) ∈ qW := qW_mem (i := 924) (by decide +kernel) (by decide +kernel)
theorem wml_X10_127 : Cond.methodLink RX10 127 yX10_fails ∈ qW := qW_mem (i := 925) (by decide +kernel) (by decide +kernel)
theorem wim_X10_fails : Cond.instanceMethod yX10_fails ∈ qW := qW_mem (i := 927) (by decide +kernel) (by decide +kernel)
theorem wse_X10_fails : Cond.selects RX10 yX10_fails yX10_fails ∈ qW := qW_mem (i := 24) (by decide +kernel) (by decide +kernel)
theorem wco_X10_fails : Cond.code yX10_fails cX10_fails 3 (some .int) ∈ qW := qW_mem (i := 928) (by decide +kernel) (by decide +kernel)
theorem wml_X10_173 : Cond.methodLink RX10 173 yX10_takeBay ∈ qW := qW_mem (i := 929) (by decide +kernel) (by decide +kernel)
theorem wim_X10_takeBay : Cond.instanceMethod yX10_takeBay ∈ qW := qW_mem (i := 931) (by decide +kernel) (by decide +kernel)
theorem wse_X10_takeBay : Cond.selects RX10 yX10_takeBay yX10_takeBay ∈ qW := qW_mem (i := 25) (by decide +kernel) (by decide +kernel)
theorem wco_X10_takeBay : Cond.code yX10_takeBay cX10_takeBay 2 (some .int) ∈ qW := qW_mem (i := 932) (by decide +kernel) (by decide +kernel)
theorem wml_X10_140 : Cond.methodLink RX10 140 yX10_into ∈ qW := qW_mem (i := 933) (by decide +kernel) (by decide +kernel)
theorem wim_X10_into : Cond.instanceMethod yX10_into ∈ qW := qW_mem (i := 935) (by decide +kernel) (by decide +kernel)
theorem wse_X10_into : Cond.selects RX10 yX10_into yX10_into ∈ qW := qW_mem (i := 26) (by decide +kernel) (by decide +kernel)
theorem wco_X10_into : Cond.code yX10_into cX10_into 6 (some .int) ∈ qW := qW_mem (i := 936) (by decide +kernel) (by decide +kernel)
theorem wfl_X10_134 : Cond.fieldLink RX10 134 "FireworkDeedsModel" "number" "I" ∈ qW := qW_mem (i := 790) (by decide +kernel) (by decide +kernel)
theorem wml_X10_137 : Cond.methodLink RX10 137 yX10_takeNumber ∈ qW := qW_mem (i := 937) (by decide +kernel) (by decide +kernel)
theorem wim_X10_takeNumber : Cond.instanceMethod yX10_takeNumber ∈ qW := qW_mem (i := 939) (by decide +kernel) (by decide +kernel)
theorem wse_X10_takeNumber : Cond.selects RX10 yX10_takeNumber yX10_takeNumber ∈ qW := qW_mem (i := 27) (by decide +kernel) (by decide +kernel)
theorem wco_X10_takeNumber : Cond.code yX10_takeNumber cX10_takeNumber 4 (some .int) ∈ qW := qW_mem (i := 940) (by decide +kernel) (by decide +kernel)
theorem wkl_X10_123 : Cond.constantLong RX10 123 (48) ∈ qW := qW_mem (i := 941) (by decide +kernel) (by decide +kernel)
theorem wkl_X10_125 : Cond.constantLong RX10 125 (57) ∈ qW := qW_mem (i := 942) (by decide +kernel) (by decide +kernel)
theorem wfl_X10_131 : Cond.fieldLink RX10 131 "FireworkDeedsModel" "numberAt" "I" ∈ qW := qW_mem (i := 791) (by decide +kernel) (by decide +kernel)
theorem wml_X10_176 : Cond.methodLink RX10 176 yX10_takeHouse ∈ qW := qW_mem (i := 943) (by decide +kernel) (by decide +kernel)
theorem wim_X10_takeHouse : Cond.instanceMethod yX10_takeHouse ∈ qW := qW_mem (i := 945) (by decide +kernel) (by decide +kernel)
theorem wse_X10_takeHouse : Cond.selects RX10 yX10_takeHouse yX10_takeHouse ∈ qW := qW_mem (i := 28) (by decide +kernel) (by decide +kernel)
theorem wco_X10_takeHouse : Cond.code yX10_takeHouse cX10_takeHouse 3 (some .int) ∈ qW := qW_mem (i := 946) (by decide +kernel) (by decide +kernel)
theorem wml_X10_159 : Cond.methodLink RX10 159 yX10_takeCell ∈ qW := qW_mem (i := 947) (by decide +kernel) (by decide +kernel)
theorem wim_X10_takeCell : Cond.instanceMethod yX10_takeCell ∈ qW := qW_mem (i := 949) (by decide +kernel) (by decide +kernel)
theorem wse_X10_takeCell : Cond.selects RX10 yX10_takeCell yX10_takeCell ∈ qW := qW_mem (i := 29) (by decide +kernel) (by decide +kernel)
theorem wco_X10_takeCell : Cond.code yX10_takeCell cX10_takeCell 4 (some .int) ∈ qW := qW_mem (i := 950) (by decide +kernel) (by decide +kernel)
theorem wml_X10_163 : Cond.methodLink RX10 163 yX10_takeStars ∈ qW := qW_mem (i := 951) (by decide +kernel) (by decide +kernel)
theorem wim_X10_takeStars : Cond.instanceMethod yX10_takeStars ∈ qW := qW_mem (i := 953) (by decide +kernel) (by decide +kernel)
theorem wse_X10_takeStars : Cond.selects RX10 yX10_takeStars yX10_takeStars ∈ qW := qW_mem (i := 30) (by decide +kernel) (by decide +kernel)
theorem wco_X10_takeStars : Cond.code yX10_takeStars cX10_takeStars 6 (some .int) ∈ qW := qW_mem (i := 954) (by decide +kernel) (by decide +kernel)
theorem wkl_X10_144 : Cond.constantLong RX10 144 (97) ∈ qW := qW_mem (i := 955) (by decide +kernel) (by decide +kernel)
theorem wkl_X10_146 : Cond.constantLong RX10 146 (101) ∈ qW := qW_mem (i := 956) (by decide +kernel) (by decide +kernel)
theorem wml_X10_148 : Cond.methodLink RX10 148 yX10_isStar ∈ qW := qW_mem (i := 957) (by decide +kernel) (by decide +kernel)
theorem wim_X10_isStar : Cond.instanceMethod yX10_isStar ∈ qW := qW_mem (i := 959) (by decide +kernel) (by decide +kernel)
theorem wse_X10_isStar : Cond.selects RX10 yX10_isStar yX10_isStar ∈ qW := qW_mem (i := 31) (by decide +kernel) (by decide +kernel)
theorem wco_X10_isStar : Cond.code yX10_isStar cX10_isStar 2 (some .boolean) ∈ qW := qW_mem (i := 960) (by decide +kernel) (by decide +kernel)
theorem wml_X10_152 : Cond.methodLink RX10 152 yX10_areLike ∈ qW := qW_mem (i := 961) (by decide +kernel) (by decide +kernel)
theorem wim_X10_areLike : Cond.instanceMethod yX10_areLike ∈ qW := qW_mem (i := 963) (by decide +kernel) (by decide +kernel)
theorem wse_X10_areLike : Cond.selects RX10 yX10_areLike yX10_areLike ∈ qW := qW_mem (i := 32) (by decide +kernel) (by decide +kernel)
theorem wco_X10_areLike : Cond.code yX10_areLike cX10_areLike 5 (some .boolean) ∈ qW := qW_mem (i := 964) (by decide +kernel) (by decide +kernel)
theorem wml_X10_182 : Cond.methodLink RX10 182 yX10_takeRead ∈ qW := qW_mem (i := 965) (by decide +kernel) (by decide +kernel)
theorem wim_X10_takeRead : Cond.instanceMethod yX10_takeRead ∈ qW := qW_mem (i := 967) (by decide +kernel) (by decide +kernel)
theorem wse_X10_takeRead : Cond.selects RX10 yX10_takeRead yX10_takeRead ∈ qW := qW_mem (i := 33) (by decide +kernel) (by decide +kernel)
theorem wco_X10_takeRead : Cond.code yX10_takeRead cX10_takeRead 3 none ∈ qW := qW_mem (i := 968) (by decide +kernel) (by decide +kernel)
theorem wml_L_23 : Cond.methodLink RL 23 yX9_fault ∈ qW := qW_mem (i := 436) (by decide +kernel) (by decide +kernel)
theorem wim_X9_fault : Cond.instanceMethod yX9_fault ∈ qW := qW_mem (i := 437) (by decide +kernel) (by decide +kernel)
theorem wse_X9_fault : Cond.selects RX9 yX9_fault yX9_fault ∈ qW := qW_mem (i := 438) (by decide +kernel) (by decide +kernel)
theorem wco_X9_fault : Cond.code yX9_fault cX9_fault 1 (some .int) ∈ qW := qW_mem (i := 439) (by decide +kernel) (by decide +kernel)
theorem wml_L_26 : Cond.methodLink RL 26 yX10_fault ∈ qW := qW_mem (i := 969) (by decide +kernel) (by decide +kernel)
theorem wim_X10_fault : Cond.instanceMethod yX10_fault ∈ qW := qW_mem (i := 970) (by decide +kernel) (by decide +kernel)
theorem wse_X10_fault : Cond.selects RX10 yX10_fault yX10_fault ∈ qW := qW_mem (i := 971) (by decide +kernel) (by decide +kernel)
theorem wco_X10_fault : Cond.code yX10_fault cX10_fault 1 (some .int) ∈ qW := qW_mem (i := 972) (by decide +kernel) (by decide +kernel)
theorem wml_L_27 : Cond.methodLink RL 27 yX9_told ∈ qW := qW_mem (i := 440) (by decide +kernel) (by decide +kernel)
theorem wim_X9_told : Cond.instanceMethod yX9_told ∈ qW := qW_mem (i := 441) (by decide +kernel) (by decide +kernel)
theorem wse_X9_told : Cond.selects RX9 yX9_told yX9_told ∈ qW := qW_mem (i := 442) (by decide +kernel) (by decide +kernel)
theorem wco_X9_told : Cond.code yX9_told cX9_told 2 (some .int) ∈ qW := qW_mem (i := 443) (by decide +kernel) (by decide +kernel)
theorem wfl_X9_112 : Cond.fieldLink RX9 112 "FireworkDeeds$Bay" "width" "I" ∈ qW := qW_mem (i := 92) (by decide +kernel) (by decide +kernel)
theorem wfl_X9_115 : Cond.fieldLink RX9 115 "FireworkDeeds$Night" "fog" "I" ∈ qW := qW_mem (i := 186) (by decide +kernel) (by decide +kernel)
theorem wfl_X9_118 : Cond.fieldLink RX9 118 "FireworkDeeds$Night" "wind" "I" ∈ qW := qW_mem (i := 188) (by decide +kernel) (by decide +kernel)
theorem wfl_X9_121 : Cond.fieldLink RX9 121 "FireworkDeeds$Bay" "smoke" "I" ∈ qW := qW_mem (i := 100) (by decide +kernel) (by decide +kernel)
theorem wfl_X9_124 : Cond.fieldLink RX9 124 "FireworkDeeds$Bay" "dampPercent" "I" ∈ qW := qW_mem (i := 104) (by decide +kernel) (by decide +kernel)
theorem wfl_X9_127 : Cond.fieldLink RX9 127 "FireworkDeeds$Night" "minutes" "I" ∈ qW := qW_mem (i := 184) (by decide +kernel) (by decide +kernel)
theorem wfl_X9_130 : Cond.fieldLink RX9 130 "FireworkDeeds$Night" "holds" "I" ∈ qW := qW_mem (i := 190) (by decide +kernel) (by decide +kernel)
end
section
theorem wfl_X9_143 : Cond.fieldLink RX9 143 "FireworkDeeds$Past" "count" "I" ∈ qW := qW_mem (i := 232) (by decide +kernel) (by decide +kernel)
theorem wml_X9_133 : Cond.methodLink RX9 133 yJ6_bitCount_0f7a4 ∈ qW := qW_mem (i := 444) (by decide +kernel) (by decide +kernel)
theorem wst_J6_bitCount_0f7a4 : Cond.static yJ6_bitCount_0f7a4 ∈ qW := qW_mem (i := 445) (by decide +kernel) (by decide +kernel)
theorem win_J6 : Cond.initialized RJ6 ∈ qW := qW_mem (i := 69) (by decide +kernel) (by decide +kernel)
theorem wco_J6_bitCount_0f7a4 : Cond.code yJ6_bitCount_0f7a4 cJ6_bitCount_0f7a4 1 (some .int) ∈ qW := qW_mem (i := 446) (by decide +kernel) (by decide +kernel)
theorem wk_J6_265 : Cond.constant RJ6 265 (1431655765) ∈ qW := qW_mem (i := 447) (by decide +kernel) (by decide +kernel)
theorem wk_J6_266 : Cond.constant RJ6 266 (858993459) ∈ qW := qW_mem (i := 448) (by decide +kernel) (by decide +kernel)
theorem wk_J6_267 : Cond.constant RJ6 267 (252645135) ∈ qW := qW_mem (i := 449) (by decide +kernel) (by decide +kernel)
theorem wml_X9_139 : Cond.methodLink RX9 139 yX3_conditionals ∈ qW := qW_mem (i := 450) (by decide +kernel) (by decide +kernel)
theorem wim_X3_conditionals : Cond.instanceMethod yX3_conditionals ∈ qW := qW_mem (i := 451) (by decide +kernel) (by decide +kernel)
theorem wse_X3_conditionals : Cond.selects RX3 yX3_conditionals yX3_conditionals ∈ qW := qW_mem (i := 452) (by decide +kernel) (by decide +kernel)
theorem wco_X3_conditionals : Cond.code yX3_conditionals cX3_conditionals 5 (some .int) ∈ qW := qW_mem (i := 453) (by decide +kernel) (by decide +kernel)
theorem wml_X3_112 : Cond.methodLink RX3 112 yX3_holdsFor ∈ qW := qW_mem (i := 454) (by decide +kernel) (by decide +kernel)
theorem wim_X3_holdsFor : Cond.instanceMethod yX3_holdsFor ∈ qW := qW_mem (i := 455) (by decide +kernel) (by decide +kernel)
theorem wse_X3_holdsFor : Cond.selects RX3 yX3_holdsFor yX3_holdsFor ∈ qW := qW_mem (i := 456) (by decide +kernel) (by decide +kernel)
theorem wco_X3_holdsFor : Cond.code yX3_holdsFor cX3_holdsFor 3 (some .boolean) ∈ qW := qW_mem (i := 457) (by decide +kernel) (by decide +kernel)
theorem wml_X3_109 : Cond.methodLink RX3 109 yX3_pairBit ∈ qW := qW_mem (i := 458) (by decide +kernel) (by decide +kernel)
theorem wst_X3_pairBit : Cond.static yX3_pairBit ∈ qW := qW_mem (i := 459) (by decide +kernel) (by decide +kernel)
theorem wco_X3_pairBit : Cond.code yX3_pairBit cX3_pairBit 3 (some .int) ∈ qW := qW_mem (i := 460) (by decide +kernel) (by decide +kernel)
theorem wml_X3_67 : Cond.methodLink RX3 67 Lib.Math.max.name ∈ qW := qW_mem (i := 461) (by decide +kernel) (by decide +kernel)
theorem wst_Mmax : Cond.static Lib.Math.max.name ∈ qW := qW_mem (i := 462) (by decide +kernel) (by decide +kernel)
theorem wco_Mmax : Cond.code Lib.Math.max.name Lib.Math.max.code 2 (some .int) ∈ qW := qW_mem (i := 463) (by decide +kernel) (by decide +kernel)
theorem wml_X3_61 : Cond.methodLink RX3 61 Lib.Math.min.name ∈ qW := qW_mem (i := 464) (by decide +kernel) (by decide +kernel)
theorem wml_X3_116 : Cond.methodLink RX3 116 yX0_anyGreen ∈ qW := qW_mem (i := 465) (by decide +kernel) (by decide +kernel)
theorem wim_X0_anyGreen : Cond.instanceMethod yX0_anyGreen ∈ qW := qW_mem (i := 466) (by decide +kernel) (by decide +kernel)
theorem wse_X0_anyGreen : Cond.selects RX0 yX0_anyGreen yX0_anyGreen ∈ qW := qW_mem (i := 467) (by decide +kernel) (by decide +kernel)
theorem wco_X0_anyGreen : Cond.code yX0_anyGreen cX0_anyGreen 3 (some .boolean) ∈ qW := qW_mem (i := 468) (by decide +kernel) (by decide +kernel)
theorem wml_X0_56 : Cond.methodLink RX0 56 yX8_greens ∈ qW := qW_mem (i := 469) (by decide +kernel) (by decide +kernel)
theorem wst_X8_greens : Cond.static yX8_greens ∈ qW := qW_mem (i := 470) (by decide +kernel) (by decide +kernel)
theorem win_X8 : Cond.initialized RX8 ∈ qW := qW_mem (i := 70) (by decide +kernel) (by decide +kernel)
theorem wco_X8_greens : Cond.code yX8_greens cX8_greens 3 (some .int) ∈ qW := qW_mem (i := 471) (by decide +kernel) (by decide +kernel)
theorem wml_L_30 : Cond.methodLink RL 30 yX10_told ∈ qW := qW_mem (i := 973) (by decide +kernel) (by decide +kernel)
theorem wim_X10_told : Cond.instanceMethod yX10_told ∈ qW := qW_mem (i := 974) (by decide +kernel) (by decide +kernel)
theorem wse_X10_told : Cond.selects RX10 yX10_told yX10_told ∈ qW := qW_mem (i := 975) (by decide +kernel) (by decide +kernel)
theorem wco_X10_told : Cond.code yX10_told cX10_told 2 (some .int) ∈ qW := qW_mem (i := 976) (by decide +kernel) (by decide +kernel)
theorem wml_X10_200 : Cond.methodLink RX10 200 yX10_contracts ∈ qW := qW_mem (i := 977) (by decide +kernel) (by decide +kernel)
theorem wim_X10_contracts : Cond.instanceMethod yX10_contracts ∈ qW := qW_mem (i := 979) (by decide +kernel) (by decide +kernel)
theorem wse_X10_contracts : Cond.selects RX10 yX10_contracts yX10_contracts ∈ qW := qW_mem (i := 34) (by decide +kernel) (by decide +kernel)
theorem wco_X10_contracts : Cond.code yX10_contracts cX10_contracts 5 (some .int) ∈ qW := qW_mem (i := 980) (by decide +kernel) (by decide +kernel)
theorem wml_X10_194 : Cond.methodLink RX10 194 yX10_has ∈ qW := qW_mem (i := 981) (by decide +kernel) (by decide +kernel)
theorem wst_X10_has : Cond.static yX10_has ∈ qW := qW_mem (i := 982) (by decide +kernel) (by decide +kernel)
theorem wco_X10_has : Cond.code yX10_has cX10_has 2 (some .boolean) ∈ qW := qW_mem (i := 983) (by decide +kernel) (by decide +kernel)
theorem wml_X10_197 : Cond.methodLink RX10 197 yX10_isGreen ∈ qW := qW_mem (i := 984) (by decide +kernel) (by decide +kernel)
theorem wim_X10_isGreen : Cond.instanceMethod yX10_isGreen ∈ qW := qW_mem (i := 986) (by decide +kernel) (by decide +kernel)
theorem wse_X10_isGreen : Cond.selects RX10 yX10_isGreen yX10_isGreen ∈ qW := qW_mem (i := 35) (by decide +kernel) (by decide +kernel)
theorem wco_X10_isGreen : Cond.code yX10_isGreen cX10_isGreen 4 (some .boolean) ∈ qW := qW_mem (i := 987) (by decide +kernel) (by decide +kernel)
theorem wml_L_31 : Cond.methodLink RL 31 yX9_house ∈ qW := qW_mem (i := 472) (by decide +kernel) (by decide +kernel)
theorem wim_X9_house : Cond.instanceMethod yX9_house ∈ qW := qW_mem (i := 473) (by decide +kernel) (by decide +kernel)
theorem wse_X9_house : Cond.selects RX9 yX9_house yX9_house ∈ qW := qW_mem (i := 474) (by decide +kernel) (by decide +kernel)
theorem wco_X9_house : Cond.code yX9_house cX9_house 3 (some .int) ∈ qW := qW_mem (i := 475) (by decide +kernel) (by decide +kernel)
theorem wk_X9_148 : Cond.constant RX9 148 (-1000000001) ∈ qW := qW_mem (i := 480) (by decide +kernel) (by decide +kernel)
theorem wfl_X9_149 : Cond.fieldLink RX9 149 "FireworkDeeds$Bay" "cell" "[I" ∈ qW := qW_mem (i := 114) (by decide +kernel) (by decide +kernel)
theorem wfl_X9_152 : Cond.fieldLink RX9 152 "FireworkDeeds$Bay" "powder" "[I" ∈ qW := qW_mem (i := 116) (by decide +kernel) (by decide +kernel)
theorem wfl_X9_155 : Cond.fieldLink RX9 155 "FireworkDeeds$Night" "rockets" "[I" ∈ qW := qW_mem (i := 193) (by decide +kernel) (by decide +kernel)
theorem wfl_X9_158 : Cond.fieldLink RX9 158 "FireworkDeeds$Bay" "stars" "[I" ∈ qW := qW_mem (i := 121) (by decide +kernel) (by decide +kernel)
theorem wfl_X9_165 : Cond.fieldLink RX9 165 "FireworkDeeds$Night" "signedAt" "[I" ∈ qW := qW_mem (i := 195) (by decide +kernel) (by decide +kernel)
theorem wfl_X9_168 : Cond.fieldLink RX9 168 "FireworkDeeds$Night" "signedOver" "[I" ∈ qW := qW_mem (i := 197) (by decide +kernel) (by decide +kernel)
theorem wml_X9_144 : Cond.methodLink RX9 144 yX0_has ∈ qW := qW_mem (i := 476) (by decide +kernel) (by decide +kernel)
theorem wim_X0_has : Cond.instanceMethod yX0_has ∈ qW := qW_mem (i := 477) (by decide +kernel) (by decide +kernel)
theorem wse_X0_has : Cond.selects RX0 yX0_has yX0_has ∈ qW := qW_mem (i := 478) (by decide +kernel) (by decide +kernel)
theorem wco_X0_has : Cond.code yX0_has cX0_has 2 (some .boolean) ∈ qW := qW_mem (i := 479) (by decide +kernel) (by decide +kernel)
theorem wml_X9_161 : Cond.methodLink RX9 161 yX8_count ∈ qW := qW_mem (i := 481) (by decide +kernel) (by decide +kernel)
theorem wst_X8_count : Cond.static yX8_count ∈ qW := qW_mem (i := 482) (by decide +kernel) (by decide +kernel)
theorem wco_X8_count : Cond.code yX8_count cX8_count 3 (some .int) ∈ qW := qW_mem (i := 483) (by decide +kernel) (by decide +kernel)
theorem wml_X9_171 : Cond.methodLink RX9 171 yX0_readAs ∈ qW := qW_mem (i := 484) (by decide +kernel) (by decide +kernel)
theorem wim_X0_readAs : Cond.instanceMethod yX0_readAs ∈ qW := qW_mem (i := 485) (by decide +kernel) (by decide +kernel)
theorem wse_X0_readAs : Cond.selects RX0 yX0_readAs yX0_readAs ∈ qW := qW_mem (i := 486) (by decide +kernel) (by decide +kernel)
theorem wco_X0_readAs : Cond.code yX0_readAs cX0_readAs 4 (some .int) ∈ qW := qW_mem (i := 487) (by decide +kernel) (by decide +kernel)
theorem wml_L_35 : Cond.methodLink RL 35 yX10_house ∈ qW := qW_mem (i := 988) (by decide +kernel) (by decide +kernel)
theorem wim_X10_house : Cond.instanceMethod yX10_house ∈ qW := qW_mem (i := 989) (by decide +kernel) (by decide +kernel)
theorem wse_X10_house : Cond.selects RX10 yX10_house yX10_house ∈ qW := qW_mem (i := 990) (by decide +kernel) (by decide +kernel)
theorem wco_X10_house : Cond.code yX10_house cX10_house 3 (some .int) ∈ qW := qW_mem (i := 991) (by decide +kernel) (by decide +kernel)
theorem wk_X10_207 : Cond.constant RX10 207 (-1000000001) ∈ qW := qW_mem (i := 996) (by decide +kernel) (by decide +kernel)
theorem wml_X10_204 : Cond.methodLink RX10 204 yX10_isHouse ∈ qW := qW_mem (i := 992) (by decide +kernel) (by decide +kernel)
theorem wim_X10_isHouse : Cond.instanceMethod yX10_isHouse ∈ qW := qW_mem (i := 994) (by decide +kernel) (by decide +kernel)
theorem wse_X10_isHouse : Cond.selects RX10 yX10_isHouse yX10_isHouse ∈ qW := qW_mem (i := 36) (by decide +kernel) (by decide +kernel)
theorem wco_X10_isHouse : Cond.code yX10_isHouse cX10_isHouse 2 (some .boolean) ∈ qW := qW_mem (i := 995) (by decide +kernel) (by decide +kernel)
theorem wml_X10_208 : Cond.methodLink RX10 208 yX10_starNumber ∈ qW := qW_mem (i := 997) (by decide +kernel) (by decide +kernel)
theorem wim_X10_starNumber : Cond.instanceMethod yX10_starNumber ∈ qW := qW_mem (i := 999) (by decide +kernel) (by decide +kernel)
theorem wse_X10_starNumber : Cond.selects RX10 yX10_starNumber yX10_starNumber ∈ qW := qW_mem (i := 37) (by decide +kernel) (by decide +kernel)
theorem wco_X10_starNumber : Cond.code yX10_starNumber cX10_starNumber 4 (some .int) ∈ qW := qW_mem (i := 1000) (by decide +kernel) (by decide +kernel)
theorem wml_X10_211 : Cond.methodLink RX10 211 yX10_readAs ∈ qW := qW_mem (i := 1001) (by decide +kernel) (by decide +kernel)
theorem wim_X10_readAs : Cond.instanceMethod yX10_readAs ∈ qW := qW_mem (i := 1003) (by decide +kernel) (by decide +kernel)
theorem wse_X10_readAs : Cond.selects RX10 yX10_readAs yX10_readAs ∈ qW := qW_mem (i := 38) (by decide +kernel) (by decide +kernel)
theorem wco_X10_readAs : Cond.code yX10_readAs cX10_readAs 5 (some .int) ∈ qW := qW_mem (i := 1004) (by decide +kernel) (by decide +kernel)
theorem wml_L_36 : Cond.methodLink RL 36 yX9_sees ∈ qW := qW_mem (i := 488) (by decide +kernel) (by decide +kernel)
theorem wim_X9_sees : Cond.instanceMethod yX9_sees ∈ qW := qW_mem (i := 489) (by decide +kernel) (by decide +kernel)
theorem wse_X9_sees : Cond.selects RX9 yX9_sees yX9_sees ∈ qW := qW_mem (i := 490) (by decide +kernel) (by decide +kernel)
theorem wco_X9_sees : Cond.code yX9_sees cX9_sees 3 (some .int) ∈ qW := qW_mem (i := 491) (by decide +kernel) (by decide +kernel)
theorem wml_X9_174 : Cond.methodLink RX9 174 yX0_hasTwo ∈ qW := qW_mem (i := 492) (by decide +kernel) (by decide +kernel)
theorem wim_X0_hasTwo : Cond.instanceMethod yX0_hasTwo ∈ qW := qW_mem (i := 493) (by decide +kernel) (by decide +kernel)
theorem wse_X0_hasTwo : Cond.selects RX0 yX0_hasTwo yX0_hasTwo ∈ qW := qW_mem (i := 494) (by decide +kernel) (by decide +kernel)
theorem wco_X0_hasTwo : Cond.code yX0_hasTwo cX0_hasTwo 3 (some .boolean) ∈ qW := qW_mem (i := 495) (by decide +kernel) (by decide +kernel)
theorem wml_X0_46 : Cond.methodLink RX0 46 yX0_has ∈ qW := qW_mem (i := 496) (by decide +kernel) (by decide +kernel)
theorem wml_X9_178 : Cond.methodLink RX9 178 yX3_viewers ∈ qW := qW_mem (i := 497) (by decide +kernel) (by decide +kernel)
theorem wim_X3_viewers : Cond.instanceMethod yX3_viewers ∈ qW := qW_mem (i := 498) (by decide +kernel) (by decide +kernel)
theorem wse_X3_viewers : Cond.selects RX3 yX3_viewers yX3_viewers ∈ qW := qW_mem (i := 499) (by decide +kernel) (by decide +kernel)
theorem wco_X3_viewers : Cond.code yX3_viewers cX3_viewers 3 (some .int) ∈ qW := qW_mem (i := 500) (by decide +kernel) (by decide +kernel)
theorem wml_X3_87 : Cond.methodLink RX3 87 yX3_hidden ∈ qW := qW_mem (i := 501) (by decide +kernel) (by decide +kernel)
theorem wim_X3_hidden : Cond.instanceMethod yX3_hidden ∈ qW := qW_mem (i := 502) (by decide +kernel) (by decide +kernel)
theorem wse_X3_hidden : Cond.selects RX3 yX3_hidden yX3_hidden ∈ qW := qW_mem (i := 503) (by decide +kernel) (by decide +kernel)
theorem wco_X3_hidden : Cond.code yX3_hidden cX3_hidden 6 (some .boolean) ∈ qW := qW_mem (i := 504) (by decide +kernel) (by decide +kernel)
theorem wfl_X3_84 : Cond.fieldLink RX3 84 "FireworkDeeds$Bay" "smoke" "I" ∈ qW := qW_mem (i := 102) (by decide +kernel) (by decide +kernel)
theorem wml_X3_70 : Cond.methodLink RX3 70 yX3_cellOver ∈ qW := qW_mem (i := 505) (by decide +kernel) (by decide +kernel)
theorem wim_X3_cellOver : Cond.instanceMethod yX3_cellOver ∈ qW := qW_mem (i := 506) (by decide +kernel) (by decide +kernel)
theorem wse_X3_cellOver : Cond.selects RX3 yX3_cellOver yX3_cellOver ∈ qW := qW_mem (i := 507) (by decide +kernel) (by decide +kernel)
theorem wco_X3_cellOver : Cond.code yX3_cellOver cX3_cellOver 3 (some .int) ∈ qW := qW_mem (i := 508) (by decide +kernel) (by decide +kernel)
theorem wfl_X3_55 : Cond.fieldLink RX3 55 "FireworkDeeds$Bay" "width" "I" ∈ qW := qW_mem (i := 91) (by decide +kernel) (by decide +kernel)
theorem wfl_X3_58 : Cond.fieldLink RX3 58 "FireworkDeeds$Bay" "cell" "[I" ∈ qW := qW_mem (i := 113) (by decide +kernel) (by decide +kernel)
theorem wml_X3_91 : Cond.methodLink RX3 91 yX3_inReach ∈ qW := qW_mem (i := 509) (by decide +kernel) (by decide +kernel)
theorem wim_X3_inReach : Cond.instanceMethod yX3_inReach ∈ qW := qW_mem (i := 510) (by decide +kernel) (by decide +kernel)
theorem wse_X3_inReach : Cond.selects RX3 yX3_inReach yX3_inReach ∈ qW := qW_mem (i := 511) (by decide +kernel) (by decide +kernel)
theorem wco_X3_inReach : Cond.code yX3_inReach cX3_inReach 7 (some .int) ∈ qW := qW_mem (i := 512) (by decide +kernel) (by decide +kernel)
theorem wml_X3_80 : Cond.methodLink RX3 80 Lib.Math.abs.name ∈ qW := qW_mem (i := 517) (by decide +kernel) (by decide +kernel)
theorem wst_Mabs : Cond.static Lib.Math.abs.name ∈ qW := qW_mem (i := 518) (by decide +kernel) (by decide +kernel)
theorem wco_Mabs : Cond.code Lib.Math.abs.name Lib.Math.abs.code 1 (some .int) ∈ qW := qW_mem (i := 519) (by decide +kernel) (by decide +kernel)
theorem wml_X3_77 : Cond.methodLink RX3 77 yX3_reach ∈ qW := qW_mem (i := 513) (by decide +kernel) (by decide +kernel)
theorem wim_X3_reach : Cond.instanceMethod yX3_reach ∈ qW := qW_mem (i := 514) (by decide +kernel) (by decide +kernel)
theorem wse_X3_reach : Cond.selects RX3 yX3_reach yX3_reach ∈ qW := qW_mem (i := 515) (by decide +kernel) (by decide +kernel)
theorem wco_X3_reach : Cond.code yX3_reach cX3_reach 3 (some .int) ∈ qW := qW_mem (i := 516) (by decide +kernel) (by decide +kernel)
theorem wfl_X3_74 : Cond.fieldLink RX3 74 "FireworkDeeds$Bay" "powder" "[I" ∈ qW := qW_mem (i := 117) (by decide +kernel) (by decide +kernel)
theorem wml_L_39 : Cond.methodLink RL 39 yX10_sees ∈ qW := qW_mem (i := 1005) (by decide +kernel) (by decide +kernel)
theorem wim_X10_sees : Cond.instanceMethod yX10_sees ∈ qW := qW_mem (i := 1006) (by decide +kernel) (by decide +kernel)
theorem wse_X10_sees : Cond.selects RX10 yX10_sees yX10_sees ∈ qW := qW_mem (i := 1007) (by decide +kernel) (by decide +kernel)
theorem wco_X10_sees : Cond.code yX10_sees cX10_sees 3 (some .int) ∈ qW := qW_mem (i := 1008) (by decide +kernel) (by decide +kernel)
theorem wml_X10_226 : Cond.methodLink RX10 226 yX10_areTwo ∈ qW := qW_mem (i := 1009) (by decide +kernel) (by decide +kernel)
theorem wim_X10_areTwo : Cond.instanceMethod yX10_areTwo ∈ qW := qW_mem (i := 1011) (by decide +kernel) (by decide +kernel)
theorem wse_X10_areTwo : Cond.selects RX10 yX10_areTwo yX10_areTwo ∈ qW := qW_mem (i := 39) (by decide +kernel) (by decide +kernel)
theorem wco_X10_areTwo : Cond.code yX10_areTwo cX10_areTwo 3 (some .boolean) ∈ qW := qW_mem (i := 1012) (by decide +kernel) (by decide +kernel)
theorem wml_X10_229 : Cond.methodLink RX10 229 yX10_seers ∈ qW := qW_mem (i := 1013) (by decide +kernel) (by decide +kernel)
theorem wim_X10_seers : Cond.instanceMethod yX10_seers ∈ qW := qW_mem (i := 1015) (by decide +kernel) (by decide +kernel)
theorem wse_X10_seers : Cond.selects RX10 yX10_seers yX10_seers ∈ qW := qW_mem (i := 40) (by decide +kernel) (by decide +kernel)
theorem wco_X10_seers : Cond.code yX10_seers cX10_seers 5 (some .int) ∈ qW := qW_mem (i := 1016) (by decide +kernel) (by decide +kernel)
theorem wml_X10_214 : Cond.methodLink RX10 214 yX10_overOf ∈ qW := qW_mem (i := 1017) (by decide +kernel) (by decide +kernel)
theorem wim_X10_overOf : Cond.instanceMethod yX10_overOf ∈ qW := qW_mem (i := 1019) (by decide +kernel) (by decide +kernel)
theorem wse_X10_overOf : Cond.selects RX10 yX10_overOf yX10_overOf ∈ qW := qW_mem (i := 41) (by decide +kernel) (by decide +kernel)
theorem wco_X10_overOf : Cond.code yX10_overOf cX10_overOf 3 (some .int) ∈ qW := qW_mem (i := 1020) (by decide +kernel) (by decide +kernel)
theorem wml_X10_217 : Cond.methodLink RX10 217 yX10_apart ∈ qW := qW_mem (i := 1021) (by decide +kernel) (by decide +kernel)
theorem wst_X10_apart : Cond.static yX10_apart ∈ qW := qW_mem (i := 1022) (by decide +kernel) (by decide +kernel)
theorem wco_X10_apart : Cond.code yX10_apart cX10_apart 2 (some .int) ∈ qW := qW_mem (i := 1023) (by decide +kernel) (by decide +kernel)
theorem wml_X10_220 : Cond.methodLink RX10 220 yX10_reach ∈ qW := qW_mem (i := 1024) (by decide +kernel) (by decide +kernel)
theorem wim_X10_reach : Cond.instanceMethod yX10_reach ∈ qW := qW_mem (i := 1026) (by decide +kernel) (by decide +kernel)
theorem wse_X10_reach : Cond.selects RX10 yX10_reach yX10_reach ∈ qW := qW_mem (i := 42) (by decide +kernel) (by decide +kernel)
theorem wco_X10_reach : Cond.code yX10_reach cX10_reach 2 (some .int) ∈ qW := qW_mem (i := 1027) (by decide +kernel) (by decide +kernel)
theorem wml_X10_223 : Cond.methodLink RX10 223 yX10_isHidden ∈ qW := qW_mem (i := 1028) (by decide +kernel) (by decide +kernel)
theorem wim_X10_isHidden : Cond.instanceMethod yX10_isHidden ∈ qW := qW_mem (i := 1030) (by decide +kernel) (by decide +kernel)
theorem wse_X10_isHidden : Cond.selects RX10 yX10_isHidden yX10_isHidden ∈ qW := qW_mem (i := 43) (by decide +kernel) (by decide +kernel)
theorem wco_X10_isHidden : Cond.code yX10_isHidden cX10_isHidden 5 (some .boolean) ∈ qW := qW_mem (i := 1031) (by decide +kernel) (by decide +kernel)
theorem wml_L_40 : Cond.methodLink RL 40 yX9_contract ∈ qW := qW_mem (i := 520) (by decide +kernel) (by decide +kernel)
theorem wim_X9_contract : Cond.instanceMethod yX9_contract ∈ qW := qW_mem (i := 521) (by decide +kernel) (by decide +kernel)
theorem wse_X9_contract : Cond.selects RX9 yX9_contract yX9_contract ∈ qW := qW_mem (i := 522) (by decide +kernel) (by decide +kernel)
theorem wco_X9_contract : Cond.code yX9_contract cX9_contract 3 (some .int) ∈ qW := qW_mem (i := 523) (by decide +kernel) (by decide +kernel)
theorem wml_X9_182 : Cond.methodLink RX9 182 yX3_holdsFor ∈ qW := qW_mem (i := 524) (by decide +kernel) (by decide +kernel)
theorem wml_X9_185 : Cond.methodLink RX9 185 yX0_anyGreen ∈ qW := qW_mem (i := 525) (by decide +kernel) (by decide +kernel)
theorem wml_L_43 : Cond.methodLink RL 43 yX10_contract ∈ qW := qW_mem (i := 1032) (by decide +kernel) (by decide +kernel)
theorem wim_X10_contract : Cond.instanceMethod yX10_contract ∈ qW := qW_mem (i := 1033) (by decide +kernel) (by decide +kernel)
theorem wse_X10_contract : Cond.selects RX10 yX10_contract yX10_contract ∈ qW := qW_mem (i := 1034) (by decide +kernel) (by decide +kernel)
theorem wco_X10_contract : Cond.code yX10_contract cX10_contract 3 (some .int) ∈ qW := qW_mem (i := 1035) (by decide +kernel) (by decide +kernel)
theorem wml_L_44 : Cond.methodLink RL 44 yX9_light ∈ qW := qW_mem (i := 526) (by decide +kernel) (by decide +kernel)
theorem wim_X9_light : Cond.instanceMethod yX9_light ∈ qW := qW_mem (i := 527) (by decide +kernel) (by decide +kernel)
theorem wse_X9_light : Cond.selects RX9 yX9_light yX9_light ∈ qW := qW_mem (i := 528) (by decide +kernel) (by decide +kernel)
theorem wco_X9_light : Cond.code yX9_light cX9_light 2 (some .int) ∈ qW := qW_mem (i := 529) (by decide +kernel) (by decide +kernel)
theorem wk_X9_188 : Cond.constant RX9 188 (-1000000003) ∈ qW := qW_mem (i := 530) (by decide +kernel) (by decide +kernel)
theorem wml_X9_189 : Cond.methodLink RX9 189 yX5_push ∈ qW := qW_mem (i := 531) (by decide +kernel) (by decide +kernel)
theorem wim_X5_push : Cond.instanceMethod yX5_push ∈ qW := qW_mem (i := 532) (by decide +kernel) (by decide +kernel)
theorem wse_X5_push : Cond.selects RX5 yX5_push yX5_push ∈ qW := qW_mem (i := 533) (by decide +kernel) (by decide +kernel)
theorem wco_X5_push : Cond.code yX5_push cX5_push 2 none ∈ qW := qW_mem (i := 534) (by decide +kernel) (by decide +kernel)
theorem wml_X5_29 : Cond.methodLink RX5 29 Lib.Math.min.name ∈ qW := qW_mem (i := 543) (by decide +kernel) (by decide +kernel)
theorem wml_X5_25 : Cond.methodLink RX5 25 yX3_become ∈ qW := qW_mem (i := 535) (by decide +kernel) (by decide +kernel)
theorem wim_X3_become : Cond.instanceMethod yX3_become ∈ qW := qW_mem (i := 536) (by decide +kernel) (by decide +kernel)
theorem wse_X3_become : Cond.selects RX3 yX3_become yX3_become ∈ qW := qW_mem (i := 537) (by decide +kernel) (by decide +kernel)
theorem wco_X3_become : Cond.code yX3_become cX3_become 3 none ∈ qW := qW_mem (i := 538) (by decide +kernel) (by decide +kernel)
theorem wml_X3_51 : Cond.methodLink RX3 51 yX3_signedAs ∈ qW := qW_mem (i := 539) (by decide +kernel) (by decide +kernel)
theorem wim_X3_signedAs : Cond.instanceMethod yX3_signedAs ∈ qW := qW_mem (i := 540) (by decide +kernel) (by decide +kernel)
theorem wse_X3_signedAs : Cond.selects RX3 yX3_signedAs yX3_signedAs ∈ qW := qW_mem (i := 541) (by decide +kernel) (by decide +kernel)
theorem wco_X3_signedAs : Cond.code yX3_signedAs cX3_signedAs 3 none ∈ qW := qW_mem (i := 542) (by decide +kernel) (by decide +kernel)
theorem wml_X9_193 : Cond.methodLink RX9 193 yX3_sign ∈ qW := qW_mem (i := 544) (by decide +kernel) (by decide +kernel)
theorem wim_X3_sign : Cond.instanceMethod yX3_sign ∈ qW := qW_mem (i := 545) (by decide +kernel) (by decide +kernel)
theorem wse_X3_sign : Cond.selects RX3 yX3_sign yX3_sign ∈ qW := qW_mem (i := 546) (by decide +kernel) (by decide +kernel)
theorem wco_X3_sign : Cond.code yX3_sign cX3_sign 3 none ∈ qW := qW_mem (i := 547) (by decide +kernel) (by decide +kernel)
theorem wml_X3_94 : Cond.methodLink RX3 94 yX3_viewers ∈ qW := qW_mem (i := 548) (by decide +kernel) (by decide +kernel)
theorem wml_X9_197 : Cond.methodLink RX9 197 yX3_agree ∈ qW := qW_mem (i := 549) (by decide +kernel) (by decide +kernel)
theorem wim_X3_agree : Cond.instanceMethod yX3_agree ∈ qW := qW_mem (i := 550) (by decide +kernel) (by decide +kernel)
theorem wse_X3_agree : Cond.selects RX3 yX3_agree yX3_agree ∈ qW := qW_mem (i := 551) (by decide +kernel) (by decide +kernel)
theorem wco_X3_agree : Cond.code yX3_agree cX3_agree 5 (some .int) ∈ qW := qW_mem (i := 552) (by decide +kernel) (by decide +kernel)
theorem wml_X3_97 : Cond.methodLink RX3 97 yJ6_bitCount_0f7a4 ∈ qW := qW_mem (i := 553) (by decide +kernel) (by decide +kernel)
theorem wml_X3_102 : Cond.methodLink RX3 102 yX3_meet ∈ qW := qW_mem (i := 554) (by decide +kernel) (by decide +kernel)
theorem wim_X3_meet : Cond.instanceMethod yX3_meet ∈ qW := qW_mem (i := 556) (by decide +kernel) (by decide +kernel)
theorem wse_X3_meet : Cond.selects RX3 yX3_meet yX3_meet ∈ qW := qW_mem (i := 11) (by decide +kernel) (by decide +kernel)
theorem wco_X3_meet : Cond.code yX3_meet cX3_meet 7 none ∈ qW := qW_mem (i := 557) (by decide +kernel) (by decide +kernel)
theorem wml_X3_106 : Cond.methodLink RX3 106 yX0_readAs ∈ qW := qW_mem (i := 558) (by decide +kernel) (by decide +kernel)
theorem wml_L_47 : Cond.methodLink RL 47 yX10_light ∈ qW := qW_mem (i := 1036) (by decide +kernel) (by decide +kernel)
theorem wim_X10_light : Cond.instanceMethod yX10_light ∈ qW := qW_mem (i := 1037) (by decide +kernel) (by decide +kernel)
theorem wse_X10_light : Cond.selects RX10 yX10_light yX10_light ∈ qW := qW_mem (i := 1038) (by decide +kernel) (by decide +kernel)
theorem wco_X10_light : Cond.code yX10_light cX10_light 5 (some .int) ∈ qW := qW_mem (i := 1039) (by decide +kernel) (by decide +kernel)
theorem wk_X10_232 : Cond.constant RX10 232 (-1000000003) ∈ qW := qW_mem (i := 1040) (by decide +kernel) (by decide +kernel)
theorem wml_X10_233 : Cond.methodLink RX10 233 yX10_remember ∈ qW := qW_mem (i := 1041) (by decide +kernel) (by decide +kernel)
theorem wim_X10_remember : Cond.instanceMethod yX10_remember ∈ qW := qW_mem (i := 1043) (by decide +kernel) (by decide +kernel)
theorem wse_X10_remember : Cond.selects RX10 yX10_remember yX10_remember ∈ qW := qW_mem (i := 44) (by decide +kernel) (by decide +kernel)
theorem wco_X10_remember : Cond.code yX10_remember cX10_remember 2 none ∈ qW := qW_mem (i := 1044) (by decide +kernel) (by decide +kernel)
theorem wml_X10_236 : Cond.methodLink RX10 236 yX10_lightNow ∈ qW := qW_mem (i := 1045) (by decide +kernel) (by decide +kernel)
theorem wim_X10_lightNow : Cond.instanceMethod yX10_lightNow ∈ qW := qW_mem (i := 1047) (by decide +kernel) (by decide +kernel)
theorem wse_X10_lightNow : Cond.selects RX10 yX10_lightNow yX10_lightNow ∈ qW := qW_mem (i := 45) (by decide +kernel) (by decide +kernel)
theorem wco_X10_lightNow : Cond.code yX10_lightNow cX10_lightNow 3 none ∈ qW := qW_mem (i := 1048) (by decide +kernel) (by decide +kernel)
theorem wml_X10_240 : Cond.methodLink RX10 240 yX10_holds ∈ qW := qW_mem (i := 1049) (by decide +kernel) (by decide +kernel)
theorem wim_X10_holds : Cond.instanceMethod yX10_holds ∈ qW := qW_mem (i := 1051) (by decide +kernel) (by decide +kernel)
theorem wse_X10_holds : Cond.selects RX10 yX10_holds yX10_holds ∈ qW := qW_mem (i := 46) (by decide +kernel) (by decide +kernel)
theorem wco_X10_holds : Cond.code yX10_holds cX10_holds 6 (some .boolean) ∈ qW := qW_mem (i := 1052) (by decide +kernel) (by decide +kernel)
theorem wml_L_48 : Cond.methodLink RL 48 yX9_minute ∈ qW := qW_mem (i := 559) (by decide +kernel) (by decide +kernel)
theorem wim_X9_minute : Cond.instanceMethod yX9_minute ∈ qW := qW_mem (i := 560) (by decide +kernel) (by decide +kernel)
theorem wse_X9_minute : Cond.selects RX9 yX9_minute yX9_minute ∈ qW := qW_mem (i := 561) (by decide +kernel) (by decide +kernel)
theorem wco_X9_minute : Cond.code yX9_minute cX9_minute 3 (some .int) ∈ qW := qW_mem (i := 562) (by decide +kernel) (by decide +kernel)
theorem wml_X9_200 : Cond.methodLink RX9 200 yX9_refusalOfMinutes ∈ qW := qW_mem (i := 563) (by decide +kernel) (by decide +kernel)
theorem wim_X9_refusalOfMinutes : Cond.instanceMethod yX9_refusalOfMinutes ∈ qW := qW_mem (i := 565) (by decide +kernel) (by decide +kernel)
theorem wse_X9_refusalOfMinutes : Cond.selects RX9 yX9_refusalOfMinutes yX9_refusalOfMinutes ∈ qW := qW_mem (i := 12) (by decide +kernel) (by decide +kernel)
theorem wco_X9_refusalOfMinutes : Cond.code yX9_refusalOfMinutes cX9_refusalOfMinutes 2 (some .int) ∈ qW := qW_mem (i := 566) (by decide +kernel) (by decide +kernel)
theorem wk_X9_287 : Cond.constant RX9 287 (90000) ∈ qW := qW_mem (i := 567) (by decide +kernel) (by decide +kernel)
theorem wml_L_51 : Cond.methodLink RL 51 yX10_minute ∈ qW := qW_mem (i := 1053) (by decide +kernel) (by decide +kernel)
theorem wim_X10_minute : Cond.instanceMethod yX10_minute ∈ qW := qW_mem (i := 1054) (by decide +kernel) (by decide +kernel)
theorem wse_X10_minute : Cond.selects RX10 yX10_minute yX10_minute ∈ qW := qW_mem (i := 1055) (by decide +kernel) (by decide +kernel)
theorem wco_X10_minute : Cond.code yX10_minute cX10_minute 3 (some .int) ∈ qW := qW_mem (i := 1056) (by decide +kernel) (by decide +kernel)
theorem wml_X10_246 : Cond.methodLink RX10 246 yX10_minutesRefused ∈ qW := qW_mem (i := 1057) (by decide +kernel) (by decide +kernel)
theorem wim_X10_minutesRefused : Cond.instanceMethod yX10_minutesRefused ∈ qW := qW_mem (i := 1059) (by decide +kernel) (by decide +kernel)
theorem wse_X10_minutesRefused : Cond.selects RX10 yX10_minutesRefused yX10_minutesRefused ∈ qW := qW_mem (i := 47) (by decide +kernel) (by decide +kernel)
theorem wco_X10_minutesRefused : Cond.code yX10_minutesRefused cX10_minutesRefused 2 (some .int) ∈ qW := qW_mem (i := 1060) (by decide +kernel) (by decide +kernel)
theorem wkl_X10_243 : Cond.constantLong RX10 243 (99) ∈ qW := qW_mem (i := 1061) (by decide +kernel) (by decide +kernel)
theorem wk_X10_245 : Cond.constant RX10 245 (90000) ∈ qW := qW_mem (i := 1062) (by decide +kernel) (by decide +kernel)
theorem wml_L_52 : Cond.methodLink RL 52 yX9_fog ∈ qW := qW_mem (i := 568) (by decide +kernel) (by decide +kernel)
theorem wim_X9_fog : Cond.instanceMethod yX9_fog ∈ qW := qW_mem (i := 569) (by decide +kernel) (by decide +kernel)
theorem wse_X9_fog : Cond.selects RX9 yX9_fog yX9_fog ∈ qW := qW_mem (i := 570) (by decide +kernel) (by decide +kernel)
theorem wco_X9_fog : Cond.code yX9_fog cX9_fog 3 (some .int) ∈ qW := qW_mem (i := 571) (by decide +kernel) (by decide +kernel)
theorem wml_L_55 : Cond.methodLink RL 55 yX10_fog ∈ qW := qW_mem (i := 1063) (by decide +kernel) (by decide +kernel)
theorem wim_X10_fog : Cond.instanceMethod yX10_fog ∈ qW := qW_mem (i := 1064) (by decide +kernel) (by decide +kernel)
theorem wse_X10_fog : Cond.selects RX10 yX10_fog yX10_fog ∈ qW := qW_mem (i := 1065) (by decide +kernel) (by decide +kernel)
theorem wco_X10_fog : Cond.code yX10_fog cX10_fog 3 (some .int) ∈ qW := qW_mem (i := 1066) (by decide +kernel) (by decide +kernel)
theorem wkl_X10_249 : Cond.constantLong RX10 249 (20) ∈ qW := qW_mem (i := 1067) (by decide +kernel) (by decide +kernel)
theorem wml_L_56 : Cond.methodLink RL 56 yX9_wind ∈ qW := qW_mem (i := 572) (by decide +kernel) (by decide +kernel)
theorem wim_X9_wind : Cond.instanceMethod yX9_wind ∈ qW := qW_mem (i := 573) (by decide +kernel) (by decide +kernel)
theorem wse_X9_wind : Cond.selects RX9 yX9_wind yX9_wind ∈ qW := qW_mem (i := 574) (by decide +kernel) (by decide +kernel)
theorem wco_X9_wind : Cond.code yX9_wind cX9_wind 3 (some .int) ∈ qW := qW_mem (i := 575) (by decide +kernel) (by decide +kernel)
theorem wml_L_59 : Cond.methodLink RL 59 yX10_wind ∈ qW := qW_mem (i := 1068) (by decide +kernel) (by decide +kernel)
theorem wim_X10_wind : Cond.instanceMethod yX10_wind ∈ qW := qW_mem (i := 1069) (by decide +kernel) (by decide +kernel)
theorem wse_X10_wind : Cond.selects RX10 yX10_wind yX10_wind ∈ qW := qW_mem (i := 1070) (by decide +kernel) (by decide +kernel)
theorem wco_X10_wind : Cond.code yX10_wind cX10_wind 3 (some .int) ∈ qW := qW_mem (i := 1071) (by decide +kernel) (by decide +kernel)
theorem wkl_X10_251 : Cond.constantLong RX10 251 (-5) ∈ qW := qW_mem (i := 1072) (by decide +kernel) (by decide +kernel)
theorem wkl_X10_253 : Cond.constantLong RX10 253 (5) ∈ qW := qW_mem (i := 1073) (by decide +kernel) (by decide +kernel)
theorem wml_L_60 : Cond.methodLink RL 60 yX9_drift ∈ qW := qW_mem (i := 576) (by decide +kernel) (by decide +kernel)
theorem wim_X9_drift : Cond.instanceMethod yX9_drift ∈ qW := qW_mem (i := 577) (by decide +kernel) (by decide +kernel)
theorem wse_X9_drift : Cond.selects RX9 yX9_drift yX9_drift ∈ qW := qW_mem (i := 578) (by decide +kernel) (by decide +kernel)
theorem wco_X9_drift : Cond.code yX9_drift cX9_drift 4 (some .int) ∈ qW := qW_mem (i := 579) (by decide +kernel) (by decide +kernel)
theorem wml_X9_203 : Cond.methodLink RX9 203 yX9_changeWeather ∈ qW := qW_mem (i := 580) (by decide +kernel) (by decide +kernel)
theorem wim_X9_changeWeather : Cond.instanceMethod yX9_changeWeather ∈ qW := qW_mem (i := 582) (by decide +kernel) (by decide +kernel)
theorem wse_X9_changeWeather : Cond.selects RX9 yX9_changeWeather yX9_changeWeather ∈ qW := qW_mem (i := 13) (by decide +kernel) (by decide +kernel)
theorem wco_X9_changeWeather : Cond.code yX9_changeWeather cX9_changeWeather 2 none ∈ qW := qW_mem (i := 583) (by decide +kernel) (by decide +kernel)
theorem wml_X9_288 : Cond.methodLink RX9 288 yX9_draw ∈ qW := qW_mem (i := 584) (by decide +kernel) (by decide +kernel)
theorem wim_X9_draw : Cond.instanceMethod yX9_draw ∈ qW := qW_mem (i := 586) (by decide +kernel) (by decide +kernel)
theorem wse_X9_draw : Cond.selects RX9 yX9_draw yX9_draw ∈ qW := qW_mem (i := 14) (by decide +kernel) (by decide +kernel)
theorem wco_X9_draw : Cond.code yX9_draw cX9_draw 2 (some .int) ∈ qW := qW_mem (i := 587) (by decide +kernel) (by decide +kernel)
theorem wkl_X9_291 : Cond.constantLong RX9 291 (1103515245) ∈ qW := qW_mem (i := 588) (by decide +kernel) (by decide +kernel)
theorem wkl_X9_293 : Cond.constantLong RX9 293 (12345) ∈ qW := qW_mem (i := 589) (by decide +kernel) (by decide +kernel)
theorem wkl_X9_295 : Cond.constantLong RX9 295 (2147483647) ∈ qW := qW_mem (i := 590) (by decide +kernel) (by decide +kernel)
theorem wk_X9_297 : Cond.constant RX9 297 (65536) ∈ qW := qW_mem (i := 591) (by decide +kernel) (by decide +kernel)
theorem wml_L_63 : Cond.methodLink RL 63 yX10_drift ∈ qW := qW_mem (i := 1074) (by decide +kernel) (by decide +kernel)
theorem wim_X10_drift : Cond.instanceMethod yX10_drift ∈ qW := qW_mem (i := 1075) (by decide +kernel) (by decide +kernel)
theorem wse_X10_drift : Cond.selects RX10 yX10_drift yX10_drift ∈ qW := qW_mem (i := 1076) (by decide +kernel) (by decide +kernel)
theorem wco_X10_drift : Cond.code yX10_drift cX10_drift 5 (some .int) ∈ qW := qW_mem (i := 1077) (by decide +kernel) (by decide +kernel)
theorem wml_X10_265 : Cond.methodLink RX10 265 yX10_draw ∈ qW := qW_mem (i := 1078) (by decide +kernel) (by decide +kernel)
theorem wim_X10_draw : Cond.instanceMethod yX10_draw ∈ qW := qW_mem (i := 1080) (by decide +kernel) (by decide +kernel)
theorem wse_X10_draw : Cond.selects RX10 yX10_draw yX10_draw ∈ qW := qW_mem (i := 48) (by decide +kernel) (by decide +kernel)
theorem wco_X10_draw : Cond.code yX10_draw cX10_draw 2 (some .int) ∈ qW := qW_mem (i := 1081) (by decide +kernel) (by decide +kernel)
theorem wfl_X10_255 : Cond.fieldLink RX10 255 "FireworkDeedsModel" "seed" "I" ∈ qW := qW_mem (i := 785) (by decide +kernel) (by decide +kernel)
theorem wkl_X10_258 : Cond.constantLong RX10 258 (1103515245) ∈ qW := qW_mem (i := 1082) (by decide +kernel) (by decide +kernel)
theorem wkl_X10_260 : Cond.constantLong RX10 260 (12345) ∈ qW := qW_mem (i := 1083) (by decide +kernel) (by decide +kernel)
theorem wkl_X10_262 : Cond.constantLong RX10 262 (2147483648) ∈ qW := qW_mem (i := 1084) (by decide +kernel) (by decide +kernel)
theorem wk_X10_264 : Cond.constant RX10 264 (65536) ∈ qW := qW_mem (i := 1085) (by decide +kernel) (by decide +kernel)
theorem wml_L_64 : Cond.methodLink RL 64 yX9_undo ∈ qW := qW_mem (i := 592) (by decide +kernel) (by decide +kernel)
theorem wim_X9_undo : Cond.instanceMethod yX9_undo ∈ qW := qW_mem (i := 593) (by decide +kernel) (by decide +kernel)
theorem wse_X9_undo : Cond.selects RX9 yX9_undo yX9_undo ∈ qW := qW_mem (i := 594) (by decide +kernel) (by decide +kernel)
theorem wco_X9_undo : Cond.code yX9_undo cX9_undo 1 (some .int) ∈ qW := qW_mem (i := 595) (by decide +kernel) (by decide +kernel)
theorem wml_X9_206 : Cond.methodLink RX9 206 yX5_pop ∈ qW := qW_mem (i := 596) (by decide +kernel) (by decide +kernel)
theorem wim_X5_pop : Cond.instanceMethod yX5_pop ∈ qW := qW_mem (i := 597) (by decide +kernel) (by decide +kernel)
theorem wse_X5_pop : Cond.selects RX5 yX5_pop yX5_pop ∈ qW := qW_mem (i := 598) (by decide +kernel) (by decide +kernel)
theorem wco_X5_pop : Cond.code yX5_pop cX5_pop 2 none ∈ qW := qW_mem (i := 599) (by decide +kernel) (by decide +kernel)
theorem wml_L_67 : Cond.methodLink RL 67 yX10_undo ∈ qW := qW_mem (i := 1086) (by decide +kernel) (by decide +kernel)
theorem wim_X10_undo : Cond.instanceMethod yX10_undo ∈ qW := qW_mem (i := 1087) (by decide +kernel) (by decide +kernel)
theorem wse_X10_undo : Cond.selects RX10 yX10_undo yX10_undo ∈ qW := qW_mem (i := 1088) (by decide +kernel) (by decide +kernel)
theorem wco_X10_undo : Cond.code yX10_undo cX10_undo 2 (some .int) ∈ qW := qW_mem (i := 1089) (by decide +kernel) (by decide +kernel)
theorem wml_L_68 : Cond.methodLink RL 68 yX9_order ∈ qW := qW_mem (i := 600) (by decide +kernel) (by decide +kernel)
theorem wim_X9_order : Cond.instanceMethod yX9_order ∈ qW := qW_mem (i := 601) (by decide +kernel) (by decide +kernel)
theorem wse_X9_order : Cond.selects RX9 yX9_order yX9_order ∈ qW := qW_mem (i := 602) (by decide +kernel) (by decide +kernel)
theorem wco_X9_order : Cond.code yX9_order cX9_order 4 (some .int) ∈ qW := qW_mem (i := 603) (by decide +kernel) (by decide +kernel)
theorem wfl_X9_216 : Cond.fieldLink RX9 216 "FireworkDeeds$Row" "houses" "[I" ∈ qW := qW_mem (i := 249) (by decide +kernel) (by decide +kernel)
theorem wml_X9_209 : Cond.methodLink RX9 209 yX0_hasAll ∈ qW := qW_mem (i := 604) (by decide +kernel) (by decide +kernel)
theorem wim_X0_hasAll : Cond.instanceMethod yX0_hasAll ∈ qW := qW_mem (i := 605) (by decide +kernel) (by decide +kernel)
theorem wse_X0_hasAll : Cond.selects RX0 yX0_hasAll yX0_hasAll ∈ qW := qW_mem (i := 606) (by decide +kernel) (by decide +kernel)
theorem wco_X0_hasAll : Cond.code yX0_hasAll cX0_hasAll 2 (some .boolean) ∈ qW := qW_mem (i := 607) (by decide +kernel) (by decide +kernel)
theorem wml_X9_212 : Cond.methodLink RX9 212 yX7_find ∈ qW := qW_mem (i := 608) (by decide +kernel) (by decide +kernel)
theorem wim_X7_find : Cond.instanceMethod yX7_find ∈ qW := qW_mem (i := 609) (by decide +kernel) (by decide +kernel)
theorem wse_X7_find : Cond.selects RX7 yX7_find yX7_find ∈ qW := qW_mem (i := 610) (by decide +kernel) (by decide +kernel)
theorem wco_X7_find : Cond.code yX7_find cX7_find 5 (some .boolean) ∈ qW := qW_mem (i := 611) (by decide +kernel) (by decide +kernel)
theorem wfl_X7_22 : Cond.fieldLink RX7 22 "FireworkDeeds$Bay" "count" "I" ∈ qW := qW_mem (i := 106) (by decide +kernel) (by decide +kernel)
theorem wml_X7_28 : Cond.methodLink RX7 28 yX3_inReach ∈ qW := qW_mem (i := 612) (by decide +kernel) (by decide +kernel)
theorem wml_X7_32 : Cond.methodLink RX7 32 yJ6_bitCount_0f7a4 ∈ qW := qW_mem (i := 613) (by decide +kernel) (by decide +kernel)
theorem wml_X7_38 : Cond.methodLink RX7 38 yX3_become ∈ qW := qW_mem (i := 614) (by decide +kernel) (by decide +kernel)
theorem wml_X7_42 : Cond.methodLink RX7 42 yX7_extend ∈ qW := qW_mem (i := 615) (by decide +kernel) (by decide +kernel)
theorem wim_X7_extend : Cond.instanceMethod yX7_extend ∈ qW := qW_mem (i := 617) (by decide +kernel) (by decide +kernel)
theorem wse_X7_extend : Cond.selects RX7 yX7_extend yX7_extend ∈ qW := qW_mem (i := 15) (by decide +kernel) (by decide +kernel)
theorem wco_X7_extend : Cond.code yX7_extend cX7_extend 6 (some .boolean) ∈ qW := qW_mem (i := 618) (by decide +kernel) (by decide +kernel)
theorem wfl_X7_46 : Cond.fieldLink RX7 46 "FireworkDeeds$Night" "minutes" "I" ∈ qW := qW_mem (i := 183) (by decide +kernel) (by decide +kernel)
theorem wml_X7_49 : Cond.methodLink RX7 49 yX7_fits ∈ qW := qW_mem (i := 619) (by decide +kernel) (by decide +kernel)
theorem wim_X7_fits : Cond.instanceMethod yX7_fits ∈ qW := qW_mem (i := 621) (by decide +kernel) (by decide +kernel)
theorem wse_X7_fits : Cond.selects RX7 yX7_fits yX7_fits ∈ qW := qW_mem (i := 16) (by decide +kernel) (by decide +kernel)
theorem wco_X7_fits : Cond.code yX7_fits cX7_fits 4 (some .boolean) ∈ qW := qW_mem (i := 622) (by decide +kernel) (by decide +kernel)
theorem wml_X7_61 : Cond.methodLink RX7 61 yX0_apart ∈ qW := qW_mem (i := 623) (by decide +kernel) (by decide +kernel)
theorem wim_X0_apart : Cond.instanceMethod yX0_apart ∈ qW := qW_mem (i := 624) (by decide +kernel) (by decide +kernel)
theorem wse_X0_apart : Cond.selects RX0 yX0_apart yX0_apart ∈ qW := qW_mem (i := 625) (by decide +kernel) (by decide +kernel)
theorem wco_X0_apart : Cond.code yX0_apart cX0_apart 3 (some .int) ∈ qW := qW_mem (i := 626) (by decide +kernel) (by decide +kernel)
theorem wml_X0_50 : Cond.methodLink RX0 50 Lib.Math.abs.name ∈ qW := qW_mem (i := 627) (by decide +kernel) (by decide +kernel)
theorem wml_X7_65 : Cond.methodLink RX7 65 yX3_hidden ∈ qW := qW_mem (i := 628) (by decide +kernel) (by decide +kernel)
theorem wml_X7_53 : Cond.methodLink RX7 53 yX3_sign ∈ qW := qW_mem (i := 629) (by decide +kernel) (by decide +kernel)
theorem wml_X7_57 : Cond.methodLink RX7 57 yX3_signedAs ∈ qW := qW_mem (i := 630) (by decide +kernel) (by decide +kernel)
theorem wml_L_71 : Cond.methodLink RL 71 yX10_order ∈ qW := qW_mem (i := 1090) (by decide +kernel) (by decide +kernel)
theorem wim_X10_order : Cond.instanceMethod yX10_order ∈ qW := qW_mem (i := 1091) (by decide +kernel) (by decide +kernel)
theorem wse_X10_order : Cond.selects RX10 yX10_order yX10_order ∈ qW := qW_mem (i := 1092) (by decide +kernel) (by decide +kernel)
theorem wco_X10_order : Cond.code yX10_order cX10_order 5 (some .int) ∈ qW := qW_mem (i := 1093) (by decide +kernel) (by decide +kernel)
theorem wml_X10_275 : Cond.methodLink RX10 275 yX10_isSet ∈ qW := qW_mem (i := 1094) (by decide +kernel) (by decide +kernel)
theorem wim_X10_isSet : Cond.instanceMethod yX10_isSet ∈ qW := qW_mem (i := 1096) (by decide +kernel) (by decide +kernel)
theorem wse_X10_isSet : Cond.selects RX10 yX10_isSet yX10_isSet ∈ qW := qW_mem (i := 49) (by decide +kernel) (by decide +kernel)
theorem wco_X10_isSet : Cond.code yX10_isSet cX10_isSet 2 (some .boolean) ∈ qW := qW_mem (i := 1097) (by decide +kernel) (by decide +kernel)
theorem wml_X10_272 : Cond.methodLink RX10 272 yX10_bits ∈ qW := qW_mem (i := 1098) (by decide +kernel) (by decide +kernel)
theorem wst_X10_bits : Cond.static yX10_bits ∈ qW := qW_mem (i := 1099) (by decide +kernel) (by decide +kernel)
theorem wco_X10_bits : Cond.code yX10_bits cX10_bits 3 (some .int) ∈ qW := qW_mem (i := 1100) (by decide +kernel) (by decide +kernel)
theorem wml_X10_278 : Cond.methodLink RX10 278 yX10_isOrder ∈ qW := qW_mem (i := 1101) (by decide +kernel) (by decide +kernel)
theorem wim_X10_isOrder : Cond.instanceMethod yX10_isOrder ∈ qW := qW_mem (i := 1103) (by decide +kernel) (by decide +kernel)
theorem wse_X10_isOrder : Cond.selects RX10 yX10_isOrder yX10_isOrder ∈ qW := qW_mem (i := 50) (by decide +kernel) (by decide +kernel)
theorem wco_X10_isOrder : Cond.code yX10_isOrder cX10_isOrder 8 (some .boolean) ∈ qW := qW_mem (i := 1104) (by decide +kernel) (by decide +kernel)
theorem wml_X10_268 : Cond.methodLink RX10 268 yX10_figure ∈ qW := qW_mem (i := 1105) (by decide +kernel) (by decide +kernel)
theorem wst_X10_figure : Cond.static yX10_figure ∈ qW := qW_mem (i := 1106) (by decide +kernel) (by decide +kernel)
theorem wco_X10_figure : Cond.code yX10_figure cX10_figure 3 (some .int) ∈ qW := qW_mem (i := 1107) (by decide +kernel) (by decide +kernel)
theorem wml_L_72 : Cond.methodLink RL 72 yX9_signers ∈ qW := qW_mem (i := 631) (by decide +kernel) (by decide +kernel)
theorem wim_X9_signers : Cond.instanceMethod yX9_signers ∈ qW := qW_mem (i := 632) (by decide +kernel) (by decide +kernel)
theorem wse_X9_signers : Cond.selects RX9 yX9_signers yX9_signers ∈ qW := qW_mem (i := 633) (by decide +kernel) (by decide +kernel)
theorem wco_X9_signers : Cond.code yX9_signers cX9_signers 4 (some .int) ∈ qW := qW_mem (i := 634) (by decide +kernel) (by decide +kernel)
theorem wml_L_75 : Cond.methodLink RL 75 yX10_signers ∈ qW := qW_mem (i := 1108) (by decide +kernel) (by decide +kernel)
theorem wim_X10_signers : Cond.instanceMethod yX10_signers ∈ qW := qW_mem (i := 1109) (by decide +kernel) (by decide +kernel)
theorem wse_X10_signers : Cond.selects RX10 yX10_signers yX10_signers ∈ qW := qW_mem (i := 1110) (by decide +kernel) (by decide +kernel)
theorem wco_X10_signers : Cond.code yX10_signers cX10_signers 4 (some .int) ∈ qW := qW_mem (i := 1111) (by decide +kernel) (by decide +kernel)
theorem wml_L_76 : Cond.methodLink RL 76 yX9_farShore ∈ qW := qW_mem (i := 635) (by decide +kernel) (by decide +kernel)
theorem wim_X9_farShore : Cond.instanceMethod yX9_farShore ∈ qW := qW_mem (i := 636) (by decide +kernel) (by decide +kernel)
theorem wse_X9_farShore : Cond.selects RX9 yX9_farShore yX9_farShore ∈ qW := qW_mem (i := 637) (by decide +kernel) (by decide +kernel)
end
section
theorem wco_X9_farShore : Cond.code yX9_farShore cX9_farShore 6 (some .int) ∈ qW := qW_mem (i := 638) (by decide +kernel) (by decide +kernel)
theorem wml_X9_219 : Cond.methodLink RX9 219 yX8_fromTheEnd ∈ qW := qW_mem (i := 639) (by decide +kernel) (by decide +kernel)
theorem wst_X8_fromTheEnd : Cond.static yX8_fromTheEnd ∈ qW := qW_mem (i := 640) (by decide +kernel) (by decide +kernel)
theorem wco_X8_fromTheEnd : Cond.code yX8_fromTheEnd cX8_fromTheEnd 3 (some .int) ∈ qW := qW_mem (i := 641) (by decide +kernel) (by decide +kernel)
theorem wml_X9_222 : Cond.methodLink RX9 222 yX0_houseOfStars ∈ qW := qW_mem (i := 642) (by decide +kernel) (by decide +kernel)
theorem wml_L_79 : Cond.methodLink RL 79 yX10_farShore ∈ qW := qW_mem (i := 1112) (by decide +kernel) (by decide +kernel)
theorem wim_X10_farShore : Cond.instanceMethod yX10_farShore ∈ qW := qW_mem (i := 1113) (by decide +kernel) (by decide +kernel)
theorem wse_X10_farShore : Cond.selects RX10 yX10_farShore yX10_farShore ∈ qW := qW_mem (i := 1114) (by decide +kernel) (by decide +kernel)
theorem wco_X10_farShore : Cond.code yX10_farShore cX10_farShore 5 (some .int) ∈ qW := qW_mem (i := 1115) (by decide +kernel) (by decide +kernel)
theorem wml_X10_282 : Cond.methodLink RX10 282 yX10_isFarOf ∈ qW := qW_mem (i := 1116) (by decide +kernel) (by decide +kernel)
theorem wim_X10_isFarOf : Cond.instanceMethod yX10_isFarOf ∈ qW := qW_mem (i := 1118) (by decide +kernel) (by decide +kernel)
theorem wse_X10_isFarOf : Cond.selects RX10 yX10_isFarOf yX10_isFarOf ∈ qW := qW_mem (i := 51) (by decide +kernel) (by decide +kernel)
theorem wco_X10_isFarOf : Cond.code yX10_isFarOf cX10_isFarOf 5 (some .boolean) ∈ qW := qW_mem (i := 1119) (by decide +kernel) (by decide +kernel)
theorem wml_L_80 : Cond.methodLink RL 80 yX9_cross ∈ qW := qW_mem (i := 643) (by decide +kernel) (by decide +kernel)
theorem wim_X9_cross : Cond.instanceMethod yX9_cross ∈ qW := qW_mem (i := 644) (by decide +kernel) (by decide +kernel)
theorem wse_X9_cross : Cond.selects RX9 yX9_cross yX9_cross ∈ qW := qW_mem (i := 645) (by decide +kernel) (by decide +kernel)
theorem wco_X9_cross : Cond.code yX9_cross cX9_cross 3 (some .int) ∈ qW := qW_mem (i := 646) (by decide +kernel) (by decide +kernel)
theorem wml_X9_229 : Cond.methodLink RX9 229 Lib.Math.min.name ∈ qW := qW_mem (i := 648) (by decide +kernel) (by decide +kernel)
theorem wml_X9_225 : Cond.methodLink RX9 225 yX0_apart ∈ qW := qW_mem (i := 647) (by decide +kernel) (by decide +kernel)
theorem wml_X9_234 : Cond.methodLink RX9 234 yX0_houseOn ∈ qW := qW_mem (i := 649) (by decide +kernel) (by decide +kernel)
theorem wml_L_83 : Cond.methodLink RL 83 yX10_cross ∈ qW := qW_mem (i := 1120) (by decide +kernel) (by decide +kernel)
theorem wim_X10_cross : Cond.instanceMethod yX10_cross ∈ qW := qW_mem (i := 1121) (by decide +kernel) (by decide +kernel)
theorem wse_X10_cross : Cond.selects RX10 yX10_cross yX10_cross ∈ qW := qW_mem (i := 1122) (by decide +kernel) (by decide +kernel)
theorem wco_X10_cross : Cond.code yX10_cross cX10_cross 5 (some .int) ∈ qW := qW_mem (i := 1123) (by decide +kernel) (by decide +kernel)
theorem wml_L_84 : Cond.methodLink RL 84 yX9_treaty ∈ qW := qW_mem (i := 650) (by decide +kernel) (by decide +kernel)
theorem wim_X9_treaty : Cond.instanceMethod yX9_treaty ∈ qW := qW_mem (i := 651) (by decide +kernel) (by decide +kernel)
theorem wse_X9_treaty : Cond.selects RX9 yX9_treaty yX9_treaty ∈ qW := qW_mem (i := 652) (by decide +kernel) (by decide +kernel)
theorem wco_X9_treaty : Cond.code yX9_treaty cX9_treaty 4 (some .int) ∈ qW := qW_mem (i := 653) (by decide +kernel) (by decide +kernel)
theorem wml_X9_237 : Cond.methodLink RX9 237 yX3_lackOfPowder ∈ qW := qW_mem (i := 654) (by decide +kernel) (by decide +kernel)
theorem wim_X3_lackOfPowder : Cond.instanceMethod yX3_lackOfPowder ∈ qW := qW_mem (i := 655) (by decide +kernel) (by decide +kernel)
theorem wse_X3_lackOfPowder : Cond.selects RX3 yX3_lackOfPowder yX3_lackOfPowder ∈ qW := qW_mem (i := 656) (by decide +kernel) (by decide +kernel)
theorem wco_X3_lackOfPowder : Cond.code yX3_lackOfPowder cX3_lackOfPowder 7 (some .int) ∈ qW := qW_mem (i := 657) (by decide +kernel) (by decide +kernel)
theorem wml_L_87 : Cond.methodLink RL 87 yX10_treaty ∈ qW := qW_mem (i := 1124) (by decide +kernel) (by decide +kernel)
theorem wim_X10_treaty : Cond.instanceMethod yX10_treaty ∈ qW := qW_mem (i := 1125) (by decide +kernel) (by decide +kernel)
theorem wse_X10_treaty : Cond.selects RX10 yX10_treaty yX10_treaty ∈ qW := qW_mem (i := 1126) (by decide +kernel) (by decide +kernel)
theorem wco_X10_treaty : Cond.code yX10_treaty cX10_treaty 7 (some .int) ∈ qW := qW_mem (i := 1127) (by decide +kernel) (by decide +kernel)
theorem wml_L_88 : Cond.methodLink RL 88 yX9_forged ∈ qW := qW_mem (i := 658) (by decide +kernel) (by decide +kernel)
theorem wim_X9_forged : Cond.instanceMethod yX9_forged ∈ qW := qW_mem (i := 659) (by decide +kernel) (by decide +kernel)
theorem wse_X9_forged : Cond.selects RX9 yX9_forged yX9_forged ∈ qW := qW_mem (i := 660) (by decide +kernel) (by decide +kernel)
theorem wco_X9_forged : Cond.code yX9_forged cX9_forged 6 (some .int) ∈ qW := qW_mem (i := 661) (by decide +kernel) (by decide +kernel)
theorem wml_X9_247 : Cond.methodLink RX9 247 Lib.Math.max.name ∈ qW := qW_mem (i := 670) (by decide +kernel) (by decide +kernel)
theorem wk_X9_250 : Cond.constant RX9 250 (1000000000) ∈ qW := qW_mem (i := 671) (by decide +kernel) (by decide +kernel)
theorem wml_X9_241 : Cond.methodLink RX9 241 yX8_areStars ∈ qW := qW_mem (i := 662) (by decide +kernel) (by decide +kernel)
theorem wst_X8_areStars : Cond.static yX8_areStars ∈ qW := qW_mem (i := 663) (by decide +kernel) (by decide +kernel)
theorem wco_X8_areStars : Cond.code yX8_areStars cX8_areStars 3 (some .boolean) ∈ qW := qW_mem (i := 664) (by decide +kernel) (by decide +kernel)
theorem wk_X8_9 : Cond.constant RX8 9 (99999) ∈ qW := qW_mem (i := 665) (by decide +kernel) (by decide +kernel)
theorem wml_X9_244 : Cond.methodLink RX9 244 yX8_unlike ∈ qW := qW_mem (i := 666) (by decide +kernel) (by decide +kernel)
theorem wst_X8_unlike : Cond.static yX8_unlike ∈ qW := qW_mem (i := 667) (by decide +kernel) (by decide +kernel)
theorem wco_X8_unlike : Cond.code yX8_unlike cX8_unlike 6 (some .int) ∈ qW := qW_mem (i := 668) (by decide +kernel) (by decide +kernel)
theorem wml_X8_10 : Cond.methodLink RX8 10 yX8_fromTheEnd ∈ qW := qW_mem (i := 669) (by decide +kernel) (by decide +kernel)
theorem wml_X9_251 : Cond.methodLink RX9 251 yX9_cutOdds ∈ qW := qW_mem (i := 672) (by decide +kernel) (by decide +kernel)
theorem wst_X9_cutOdds : Cond.static yX9_cutOdds ∈ qW := qW_mem (i := 673) (by decide +kernel) (by decide +kernel)
theorem wco_X9_cutOdds : Cond.code yX9_cutOdds cX9_cutOdds 6 (some .int) ∈ qW := qW_mem (i := 674) (by decide +kernel) (by decide +kernel)
theorem wkl_X9_298 : Cond.constantLong RX9 298 (100) ∈ qW := qW_mem (i := 675) (by decide +kernel) (by decide +kernel)
theorem wml_L_92 : Cond.methodLink RL 92 yX10_forged ∈ qW := qW_mem (i := 1128) (by decide +kernel) (by decide +kernel)
theorem wim_X10_forged : Cond.instanceMethod yX10_forged ∈ qW := qW_mem (i := 1129) (by decide +kernel) (by decide +kernel)
theorem wse_X10_forged : Cond.selects RX10 yX10_forged yX10_forged ∈ qW := qW_mem (i := 1130) (by decide +kernel) (by decide +kernel)
theorem wco_X10_forged : Cond.code yX10_forged cX10_forged 11 (some .int) ∈ qW := qW_mem (i := 1131) (by decide +kernel) (by decide +kernel)
theorem wkl_X10_288 : Cond.constantLong RX10 288 (1000000000) ∈ qW := qW_mem (i := 1136) (by decide +kernel) (by decide +kernel)
theorem wkl_X10_290 : Cond.constantLong RX10 290 (100) ∈ qW := qW_mem (i := 1137) (by decide +kernel) (by decide +kernel)
theorem wml_X10_285 : Cond.methodLink RX10 285 yX10_figuresOf ∈ qW := qW_mem (i := 1132) (by decide +kernel) (by decide +kernel)
theorem wim_X10_figuresOf : Cond.instanceMethod yX10_figuresOf ∈ qW := qW_mem (i := 1134) (by decide +kernel) (by decide +kernel)
theorem wse_X10_figuresOf : Cond.selects RX10 yX10_figuresOf yX10_figuresOf ∈ qW := qW_mem (i := 52) (by decide +kernel) (by decide +kernel)
theorem wco_X10_figuresOf : Cond.code yX10_figuresOf cX10_figuresOf 5 (some .int) ∈ qW := qW_mem (i := 1135) (by decide +kernel) (by decide +kernel)
theorem wml_L_93 : Cond.methodLink RL 93 yX9_damp ∈ qW := qW_mem (i := 676) (by decide +kernel) (by decide +kernel)
theorem wim_X9_damp : Cond.instanceMethod yX9_damp ∈ qW := qW_mem (i := 677) (by decide +kernel) (by decide +kernel)
theorem wse_X9_damp : Cond.selects RX9 yX9_damp yX9_damp ∈ qW := qW_mem (i := 678) (by decide +kernel) (by decide +kernel)
theorem wco_X9_damp : Cond.code yX9_damp cX9_damp 4 (some .int) ∈ qW := qW_mem (i := 679) (by decide +kernel) (by decide +kernel)
theorem wml_X9_255 : Cond.methodLink RX9 255 yX8_greens ∈ qW := qW_mem (i := 680) (by decide +kernel) (by decide +kernel)
theorem wml_L_96 : Cond.methodLink RL 96 yX10_damp ∈ qW := qW_mem (i := 1138) (by decide +kernel) (by decide +kernel)
theorem wim_X10_damp : Cond.instanceMethod yX10_damp ∈ qW := qW_mem (i := 1139) (by decide +kernel) (by decide +kernel)
theorem wse_X10_damp : Cond.selects RX10 yX10_damp yX10_damp ∈ qW := qW_mem (i := 1140) (by decide +kernel) (by decide +kernel)
theorem wco_X10_damp : Cond.code yX10_damp cX10_damp 6 (some .int) ∈ qW := qW_mem (i := 1141) (by decide +kernel) (by decide +kernel)
theorem wml_L_97 : Cond.methodLink RL 97 yX9_partner ∈ qW := qW_mem (i := 681) (by decide +kernel) (by decide +kernel)
theorem wim_X9_partner : Cond.instanceMethod yX9_partner ∈ qW := qW_mem (i := 682) (by decide +kernel) (by decide +kernel)
theorem wse_X9_partner : Cond.selects RX9 yX9_partner yX9_partner ∈ qW := qW_mem (i := 683) (by decide +kernel) (by decide +kernel)
theorem wco_X9_partner : Cond.code yX9_partner cX9_partner 2 (some .int) ∈ qW := qW_mem (i := 684) (by decide +kernel) (by decide +kernel)
theorem wfl_X9_262 : Cond.fieldLink RX9 262 "FireworkDeeds$Offers" "taken" "[I" ∈ qW := qW_mem (i := 264) (by decide +kernel) (by decide +kernel)
theorem wml_X9_258 : Cond.methodLink RX9 258 yX4_settle ∈ qW := qW_mem (i := 685) (by decide +kernel) (by decide +kernel)
theorem wim_X4_settle : Cond.instanceMethod yX4_settle ∈ qW := qW_mem (i := 686) (by decide +kernel) (by decide +kernel)
theorem wse_X4_settle : Cond.selects RX4 yX4_settle yX4_settle ∈ qW := qW_mem (i := 687) (by decide +kernel) (by decide +kernel)
theorem wco_X4_settle : Cond.code yX4_settle cX4_settle 5 none ∈ qW := qW_mem (i := 688) (by decide +kernel) (by decide +kernel)
theorem wml_X4_18 : Cond.methodLink RX4 18 yX4_askAll ∈ qW := qW_mem (i := 689) (by decide +kernel) (by decide +kernel)
theorem wim_X4_askAll : Cond.instanceMethod yX4_askAll ∈ qW := qW_mem (i := 691) (by decide +kernel) (by decide +kernel)
theorem wse_X4_askAll : Cond.selects RX4 yX4_askAll yX4_askAll ∈ qW := qW_mem (i := 17) (by decide +kernel) (by decide +kernel)
theorem wco_X4_askAll : Cond.code yX4_askAll cX4_askAll 6 (some .boolean) ∈ qW := qW_mem (i := 692) (by decide +kernel) (by decide +kernel)
theorem wfl_X4_22 : Cond.fieldLink RX4 22 "FireworkDeeds$Bay" "count" "I" ∈ qW := qW_mem (i := 109) (by decide +kernel) (by decide +kernel)
theorem wfl_X4_28 : Cond.fieldLink RX4 28 "FireworkDeeds$Night" "rockets" "[I" ∈ qW := qW_mem (i := 192) (by decide +kernel) (by decide +kernel)
theorem wml_X4_33 : Cond.methodLink RX4 33 yX4_nearestToAsk ∈ qW := qW_mem (i := 693) (by decide +kernel) (by decide +kernel)
theorem wim_X4_nearestToAsk : Cond.instanceMethod yX4_nearestToAsk ∈ qW := qW_mem (i := 695) (by decide +kernel) (by decide +kernel)
theorem wse_X4_nearestToAsk : Cond.selects RX4 yX4_nearestToAsk yX4_nearestToAsk ∈ qW := qW_mem (i := 18) (by decide +kernel) (by decide +kernel)
theorem wco_X4_nearestToAsk : Cond.code yX4_nearestToAsk cX4_nearestToAsk 7 (some .int) ∈ qW := qW_mem (i := 696) (by decide +kernel) (by decide +kernel)
theorem wml_X4_41 : Cond.methodLink RX4 41 yX0_apart ∈ qW := qW_mem (i := 697) (by decide +kernel) (by decide +kernel)
theorem wml_X4_37 : Cond.methodLink RX4 37 yX4_ask ∈ qW := qW_mem (i := 698) (by decide +kernel) (by decide +kernel)
theorem wim_X4_ask : Cond.instanceMethod yX4_ask ∈ qW := qW_mem (i := 700) (by decide +kernel) (by decide +kernel)
theorem wse_X4_ask : Cond.selects RX4 yX4_ask yX4_ask ∈ qW := qW_mem (i := 19) (by decide +kernel) (by decide +kernel)
theorem wco_X4_ask : Cond.code yX4_ask cX4_ask 5 none ∈ qW := qW_mem (i := 701) (by decide +kernel) (by decide +kernel)
theorem wml_X4_45 : Cond.methodLink RX4 45 yX4_pair ∈ qW := qW_mem (i := 702) (by decide +kernel) (by decide +kernel)
theorem wim_X4_pair : Cond.instanceMethod yX4_pair ∈ qW := qW_mem (i := 704) (by decide +kernel) (by decide +kernel)
theorem wse_X4_pair : Cond.selects RX4 yX4_pair yX4_pair ∈ qW := qW_mem (i := 20) (by decide +kernel) (by decide +kernel)
theorem wco_X4_pair : Cond.code yX4_pair cX4_pair 3 none ∈ qW := qW_mem (i := 705) (by decide +kernel) (by decide +kernel)
theorem wml_X4_49 : Cond.methodLink RX4 49 yX4_isNearer ∈ qW := qW_mem (i := 706) (by decide +kernel) (by decide +kernel)
theorem wst_X4_isNearer : Cond.static yX4_isNearer ∈ qW := qW_mem (i := 707) (by decide +kernel) (by decide +kernel)
theorem wco_X4_isNearer : Cond.code yX4_isNearer cX4_isNearer 6 (some .boolean) ∈ qW := qW_mem (i := 708) (by decide +kernel) (by decide +kernel)
theorem wml_L_100 : Cond.methodLink RL 100 yX10_partner ∈ qW := qW_mem (i := 1142) (by decide +kernel) (by decide +kernel)
theorem wim_X10_partner : Cond.instanceMethod yX10_partner ∈ qW := qW_mem (i := 1143) (by decide +kernel) (by decide +kernel)
theorem wse_X10_partner : Cond.selects RX10 yX10_partner yX10_partner ∈ qW := qW_mem (i := 1144) (by decide +kernel) (by decide +kernel)
theorem wco_X10_partner : Cond.code yX10_partner cX10_partner 5 (some .int) ∈ qW := qW_mem (i := 1145) (by decide +kernel) (by decide +kernel)
theorem wml_X10_295 : Cond.methodLink RX10 295 yX10_nearest ∈ qW := qW_mem (i := 1146) (by decide +kernel) (by decide +kernel)
theorem wim_X10_nearest : Cond.instanceMethod yX10_nearest ∈ qW := qW_mem (i := 1148) (by decide +kernel) (by decide +kernel)
theorem wse_X10_nearest : Cond.selects RX10 yX10_nearest yX10_nearest ∈ qW := qW_mem (i := 53) (by decide +kernel) (by decide +kernel)
theorem wco_X10_nearest : Cond.code yX10_nearest cX10_nearest 5 (some .int) ∈ qW := qW_mem (i := 1149) (by decide +kernel) (by decide +kernel)
theorem wml_X10_298 : Cond.methodLink RX10 298 yX10_ask ∈ qW := qW_mem (i := 1150) (by decide +kernel) (by decide +kernel)
theorem wim_X10_ask : Cond.instanceMethod yX10_ask ∈ qW := qW_mem (i := 1152) (by decide +kernel) (by decide +kernel)
theorem wse_X10_ask : Cond.selects RX10 yX10_ask yX10_ask ∈ qW := qW_mem (i := 54) (by decide +kernel) (by decide +kernel)
theorem wco_X10_ask : Cond.code yX10_ask cX10_ask 4 none ∈ qW := qW_mem (i := 1153) (by decide +kernel) (by decide +kernel)
theorem wml_X10_292 : Cond.methodLink RX10 292 yX10_isKeptOf ∈ qW := qW_mem (i := 1154) (by decide +kernel) (by decide +kernel)
theorem wim_X10_isKeptOf : Cond.instanceMethod yX10_isKeptOf ∈ qW := qW_mem (i := 1156) (by decide +kernel) (by decide +kernel)
theorem wse_X10_isKeptOf : Cond.selects RX10 yX10_isKeptOf yX10_isKeptOf ∈ qW := qW_mem (i := 55) (by decide +kernel) (by decide +kernel)
theorem wco_X10_isKeptOf : Cond.code yX10_isKeptOf cX10_isKeptOf 6 (some .boolean) ∈ qW := qW_mem (i := 1157) (by decide +kernel) (by decide +kernel)
theorem wml_L_101 : Cond.methodLink RL 101 yX9_duck ∈ qW := qW_mem (i := 709) (by decide +kernel) (by decide +kernel)
theorem wim_X9_duck : Cond.instanceMethod yX9_duck ∈ qW := qW_mem (i := 710) (by decide +kernel) (by decide +kernel)
theorem wse_X9_duck : Cond.selects RX9 yX9_duck yX9_duck ∈ qW := qW_mem (i := 711) (by decide +kernel) (by decide +kernel)
theorem wco_X9_duck : Cond.code yX9_duck cX9_duck 3 (some .int) ∈ qW := qW_mem (i := 712) (by decide +kernel) (by decide +kernel)
theorem wml_X9_265 : Cond.methodLink RX9 265 yX2_add ∈ qW := qW_mem (i := 713) (by decide +kernel) (by decide +kernel)
theorem wim_X2_add : Cond.instanceMethod yX2_add ∈ qW := qW_mem (i := 714) (by decide +kernel) (by decide +kernel)
theorem wse_X2_add : Cond.selects RX2 yX2_add yX2_add ∈ qW := qW_mem (i := 715) (by decide +kernel) (by decide +kernel)
theorem wco_X2_add : Cond.code yX2_add cX2_add 3 none ∈ qW := qW_mem (i := 716) (by decide +kernel) (by decide +kernel)
theorem wfl_X2_18 : Cond.fieldLink RX2 18 "FireworkDeeds$Ducks" "count" "I" ∈ qW := qW_mem (i := 277) (by decide +kernel) (by decide +kernel)
theorem wml_L_104 : Cond.methodLink RL 104 yX10_duck ∈ qW := qW_mem (i := 1158) (by decide +kernel) (by decide +kernel)
theorem wim_X10_duck : Cond.instanceMethod yX10_duck ∈ qW := qW_mem (i := 1159) (by decide +kernel) (by decide +kernel)
theorem wse_X10_duck : Cond.selects RX10 yX10_duck yX10_duck ∈ qW := qW_mem (i := 1160) (by decide +kernel) (by decide +kernel)
theorem wco_X10_duck : Cond.code yX10_duck cX10_duck 3 (some .int) ∈ qW := qW_mem (i := 1161) (by decide +kernel) (by decide +kernel)
theorem wkl_X10_302 : Cond.constantLong RX10 302 (999) ∈ qW := qW_mem (i := 1162) (by decide +kernel) (by decide +kernel)
theorem wml_L_105 : Cond.methodLink RL 105 yX9_lit ∈ qW := qW_mem (i := 717) (by decide +kernel) (by decide +kernel)
theorem wim_X9_lit : Cond.instanceMethod yX9_lit ∈ qW := qW_mem (i := 718) (by decide +kernel) (by decide +kernel)
theorem wse_X9_lit : Cond.selects RX9 yX9_lit yX9_lit ∈ qW := qW_mem (i := 719) (by decide +kernel) (by decide +kernel)
theorem wco_X9_lit : Cond.code yX9_lit cX9_lit 2 (some .int) ∈ qW := qW_mem (i := 720) (by decide +kernel) (by decide +kernel)
theorem wfl_X9_273 : Cond.fieldLink RX9 273 "FireworkDeeds$Ducks" "cell" "[I" ∈ qW := qW_mem (i := 281) (by decide +kernel) (by decide +kernel)
theorem wml_X9_269 : Cond.methodLink RX9 269 yX2_ways ∈ qW := qW_mem (i := 721) (by decide +kernel) (by decide +kernel)
theorem wim_X2_ways : Cond.instanceMethod yX2_ways ∈ qW := qW_mem (i := 722) (by decide +kernel) (by decide +kernel)
theorem wse_X2_ways : Cond.selects RX2 yX2_ways yX2_ways ∈ qW := qW_mem (i := 723) (by decide +kernel) (by decide +kernel)
theorem wco_X2_ways : Cond.code yX2_ways cX2_ways 6 (some .int) ∈ qW := qW_mem (i := 724) (by decide +kernel) (by decide +kernel)
theorem wml_X2_37 : Cond.methodLink RX2 37 Lib.Math.max.name ∈ qW := qW_mem (i := 734) (by decide +kernel) (by decide +kernel)
theorem wml_X2_22 : Cond.methodLink RX2 22 yX3_housesOver ∈ qW := qW_mem (i := 725) (by decide +kernel) (by decide +kernel)
theorem wim_X3_housesOver : Cond.instanceMethod yX3_housesOver ∈ qW := qW_mem (i := 726) (by decide +kernel) (by decide +kernel)
theorem wse_X3_housesOver : Cond.selects RX3 yX3_housesOver yX3_housesOver ∈ qW := qW_mem (i := 727) (by decide +kernel) (by decide +kernel)
theorem wco_X3_housesOver : Cond.code yX3_housesOver cX3_housesOver 5 (some .int) ∈ qW := qW_mem (i := 728) (by decide +kernel) (by decide +kernel)
theorem wml_X2_28 : Cond.methodLink RX2 28 yJ6_bitCount_0f7a4 ∈ qW := qW_mem (i := 729) (by decide +kernel) (by decide +kernel)
theorem wml_X2_34 : Cond.methodLink RX2 34 yX2_alikeAhead ∈ qW := qW_mem (i := 730) (by decide +kernel) (by decide +kernel)
theorem wim_X2_alikeAhead : Cond.instanceMethod yX2_alikeAhead ∈ qW := qW_mem (i := 732) (by decide +kernel) (by decide +kernel)
theorem wse_X2_alikeAhead : Cond.selects RX2 yX2_alikeAhead yX2_alikeAhead ∈ qW := qW_mem (i := 21) (by decide +kernel) (by decide +kernel)
theorem wco_X2_alikeAhead : Cond.code yX2_alikeAhead cX2_alikeAhead 4 (some .int) ∈ qW := qW_mem (i := 733) (by decide +kernel) (by decide +kernel)
theorem wml_X9_274 : Cond.methodLink RX9 274 yX3_housesOver ∈ qW := qW_mem (i := 735) (by decide +kernel) (by decide +kernel)
theorem wml_L_108 : Cond.methodLink RL 108 yX10_lit ∈ qW := qW_mem (i := 1163) (by decide +kernel) (by decide +kernel)
theorem wim_X10_lit : Cond.instanceMethod yX10_lit ∈ qW := qW_mem (i := 1164) (by decide +kernel) (by decide +kernel)
theorem wse_X10_lit : Cond.selects RX10 yX10_lit yX10_lit ∈ qW := qW_mem (i := 1165) (by decide +kernel) (by decide +kernel)
theorem wco_X10_lit : Cond.code yX10_lit cX10_lit 6 (some .int) ∈ qW := qW_mem (i := 1166) (by decide +kernel) (by decide +kernel)
theorem wml_X10_304 : Cond.methodLink RX10 304 yX10_litOver ∈ qW := qW_mem (i := 1167) (by decide +kernel) (by decide +kernel)
theorem wim_X10_litOver : Cond.instanceMethod yX10_litOver ∈ qW := qW_mem (i := 1169) (by decide +kernel) (by decide +kernel)
theorem wse_X10_litOver : Cond.selects RX10 yX10_litOver yX10_litOver ∈ qW := qW_mem (i := 56) (by decide +kernel) (by decide +kernel)
theorem wco_X10_litOver : Cond.code yX10_litOver cX10_litOver 4 (some .int) ∈ qW := qW_mem (i := 1170) (by decide +kernel) (by decide +kernel)
theorem wml_L_109 : Cond.methodLink RL 109 yX9_write ∈ qW := qW_mem (i := 736) (by decide +kernel) (by decide +kernel)
theorem wim_X9_write : Cond.instanceMethod yX9_write ∈ qW := qW_mem (i := 737) (by decide +kernel) (by decide +kernel)
theorem wse_X9_write : Cond.selects RX9 yX9_write yX9_write ∈ qW := qW_mem (i := 738) (by decide +kernel) (by decide +kernel)
theorem wco_X9_write : Cond.code yX9_write cX9_write 4 (some .int) ∈ qW := qW_mem (i := 739) (by decide +kernel) (by decide +kernel)
theorem wml_X9_277 : Cond.methodLink RX9 277 yX1_add ∈ qW := qW_mem (i := 740) (by decide +kernel) (by decide +kernel)
theorem wim_X1_add : Cond.instanceMethod yX1_add ∈ qW := qW_mem (i := 741) (by decide +kernel) (by decide +kernel)
theorem wse_X1_add : Cond.selects RX1 yX1_add yX1_add ∈ qW := qW_mem (i := 742) (by decide +kernel) (by decide +kernel)
theorem wco_X1_add : Cond.code yX1_add cX1_add 4 none ∈ qW := qW_mem (i := 743) (by decide +kernel) (by decide +kernel)
theorem wfl_X1_22 : Cond.fieldLink RX1 22 "FireworkDeeds$Book" "count" "I" ∈ qW := qW_mem (i := 295) (by decide +kernel) (by decide +kernel)
theorem wml_L_113 : Cond.methodLink RL 113 yX10_write ∈ qW := qW_mem (i := 1171) (by decide +kernel) (by decide +kernel)
theorem wim_X10_write : Cond.instanceMethod yX10_write ∈ qW := qW_mem (i := 1172) (by decide +kernel) (by decide +kernel)
theorem wse_X10_write : Cond.selects RX10 yX10_write yX10_write ∈ qW := qW_mem (i := 1173) (by decide +kernel) (by decide +kernel)
theorem wco_X10_write : Cond.code yX10_write cX10_write 4 (some .int) ∈ qW := qW_mem (i := 1174) (by decide +kernel) (by decide +kernel)
theorem wml_L_114 : Cond.methodLink RL 114 yX9_tear ∈ qW := qW_mem (i := 744) (by decide +kernel) (by decide +kernel)
theorem wim_X9_tear : Cond.instanceMethod yX9_tear ∈ qW := qW_mem (i := 745) (by decide +kernel) (by decide +kernel)
theorem wse_X9_tear : Cond.selects RX9 yX9_tear yX9_tear ∈ qW := qW_mem (i := 746) (by decide +kernel) (by decide +kernel)
theorem wco_X9_tear : Cond.code yX9_tear cX9_tear 2 (some .int) ∈ qW := qW_mem (i := 747) (by decide +kernel) (by decide +kernel)
theorem wml_L_117 : Cond.methodLink RL 117 yX10_tear ∈ qW := qW_mem (i := 1175) (by decide +kernel) (by decide +kernel)
theorem wim_X10_tear : Cond.instanceMethod yX10_tear ∈ qW := qW_mem (i := 1176) (by decide +kernel) (by decide +kernel)
theorem wse_X10_tear : Cond.selects RX10 yX10_tear yX10_tear ∈ qW := qW_mem (i := 1177) (by decide +kernel) (by decide +kernel)
theorem wco_X10_tear : Cond.code yX10_tear cX10_tear 2 (some .int) ∈ qW := qW_mem (i := 1178) (by decide +kernel) (by decide +kernel)
theorem wml_L_118 : Cond.methodLink RL 118 yX9_judge ∈ qW := qW_mem (i := 748) (by decide +kernel) (by decide +kernel)
theorem wim_X9_judge : Cond.instanceMethod yX9_judge ∈ qW := qW_mem (i := 749) (by decide +kernel) (by decide +kernel)
theorem wse_X9_judge : Cond.selects RX9 yX9_judge yX9_judge ∈ qW := qW_mem (i := 750) (by decide +kernel) (by decide +kernel)
theorem wco_X9_judge : Cond.code yX9_judge cX9_judge 1 (some .int) ∈ qW := qW_mem (i := 751) (by decide +kernel) (by decide +kernel)
theorem wml_X9_280 : Cond.methodLink RX9 280 yX1_firstWrong ∈ qW := qW_mem (i := 752) (by decide +kernel) (by decide +kernel)
theorem wim_X1_firstWrong : Cond.instanceMethod yX1_firstWrong ∈ qW := qW_mem (i := 753) (by decide +kernel) (by decide +kernel)
theorem wse_X1_firstWrong : Cond.selects RX1 yX1_firstWrong yX1_firstWrong ∈ qW := qW_mem (i := 754) (by decide +kernel) (by decide +kernel)
theorem wco_X1_firstWrong : Cond.code yX1_firstWrong cX1_firstWrong 3 (some .int) ∈ qW := qW_mem (i := 755) (by decide +kernel) (by decide +kernel)
theorem wml_X1_26 : Cond.methodLink RX1 26 yX3_holdsFor ∈ qW := qW_mem (i := 756) (by decide +kernel) (by decide +kernel)
theorem wml_L_121 : Cond.methodLink RL 121 yX10_judge ∈ qW := qW_mem (i := 1179) (by decide +kernel) (by decide +kernel)
theorem wim_X10_judge : Cond.instanceMethod yX10_judge ∈ qW := qW_mem (i := 1180) (by decide +kernel) (by decide +kernel)
theorem wse_X10_judge : Cond.selects RX10 yX10_judge yX10_judge ∈ qW := qW_mem (i := 1181) (by decide +kernel) (by decide +kernel)
theorem wco_X10_judge : Cond.code yX10_judge cX10_judge 2 (some .int) ∈ qW := qW_mem (i := 1182) (by decide +kernel) (by decide +kernel)
theorem wml_L_122 : Cond.methodLink RL 122 yX9_seed ∈ qW := qW_mem (i := 757) (by decide +kernel) (by decide +kernel)
theorem wim_X9_seed : Cond.instanceMethod yX9_seed ∈ qW := qW_mem (i := 758) (by decide +kernel) (by decide +kernel)
theorem wse_X9_seed : Cond.selects RX9 yX9_seed yX9_seed ∈ qW := qW_mem (i := 759) (by decide +kernel) (by decide +kernel)
theorem wco_X9_seed : Cond.code yX9_seed cX9_seed 3 (some .int) ∈ qW := qW_mem (i := 760) (by decide +kernel) (by decide +kernel)
theorem wml_L_125 : Cond.methodLink RL 125 yX10_seed ∈ qW := qW_mem (i := 1183) (by decide +kernel) (by decide +kernel)
theorem wim_X10_seed : Cond.instanceMethod yX10_seed ∈ qW := qW_mem (i := 1184) (by decide +kernel) (by decide +kernel)
theorem wse_X10_seed : Cond.selects RX10 yX10_seed yX10_seed ∈ qW := qW_mem (i := 1185) (by decide +kernel) (by decide +kernel)
theorem wco_X10_seed : Cond.code yX10_seed cX10_seed 3 (some .int) ∈ qW := qW_mem (i := 1186) (by decide +kernel) (by decide +kernel)
theorem wml_L_126 : Cond.methodLink RL 126 yX9_keep ∈ qW := qW_mem (i := 761) (by decide +kernel) (by decide +kernel)
theorem wim_X9_keep : Cond.instanceMethod yX9_keep ∈ qW := qW_mem (i := 762) (by decide +kernel) (by decide +kernel)
theorem wse_X9_keep : Cond.selects RX9 yX9_keep yX9_keep ∈ qW := qW_mem (i := 763) (by decide +kernel) (by decide +kernel)
theorem wco_X9_keep : Cond.code yX9_keep cX9_keep 2 (some .int) ∈ qW := qW_mem (i := 764) (by decide +kernel) (by decide +kernel)
theorem wml_X9_284 : Cond.methodLink RX9 284 yX3_become ∈ qW := qW_mem (i := 765) (by decide +kernel) (by decide +kernel)
theorem wml_L_129 : Cond.methodLink RL 129 yX10_keep ∈ qW := qW_mem (i := 1187) (by decide +kernel) (by decide +kernel)
theorem wim_X10_keep : Cond.instanceMethod yX10_keep ∈ qW := qW_mem (i := 1188) (by decide +kernel) (by decide +kernel)
theorem wse_X10_keep : Cond.selects RX10 yX10_keep yX10_keep ∈ qW := qW_mem (i := 1189) (by decide +kernel) (by decide +kernel)
theorem wco_X10_keep : Cond.code yX10_keep cX10_keep 3 (some .int) ∈ qW := qW_mem (i := 1190) (by decide +kernel) (by decide +kernel)
theorem wml_L_130 : Cond.methodLink RL 130 yX9_goBack ∈ qW := qW_mem (i := 766) (by decide +kernel) (by decide +kernel)
theorem wim_X9_goBack : Cond.instanceMethod yX9_goBack ∈ qW := qW_mem (i := 767) (by decide +kernel) (by decide +kernel)
theorem wse_X9_goBack : Cond.selects RX9 yX9_goBack yX9_goBack ∈ qW := qW_mem (i := 768) (by decide +kernel) (by decide +kernel)
theorem wco_X9_goBack : Cond.code yX9_goBack cX9_goBack 2 (some .int) ∈ qW := qW_mem (i := 769) (by decide +kernel) (by decide +kernel)
theorem wml_L_133 : Cond.methodLink RL 133 yX10_goBack ∈ qW := qW_mem (i := 1191) (by decide +kernel) (by decide +kernel)
theorem wim_X10_goBack : Cond.instanceMethod yX10_goBack ∈ qW := qW_mem (i := 1192) (by decide +kernel) (by decide +kernel)
theorem wse_X10_goBack : Cond.selects RX10 yX10_goBack yX10_goBack ∈ qW := qW_mem (i := 1193) (by decide +kernel) (by decide +kernel)
theorem wco_X10_goBack : Cond.code yX10_goBack cX10_goBack 3 (some .int) ∈ qW := qW_mem (i := 1194) (by decide +kernel) (by decide +kernel)
end
section
theorem qW_lay (C : String) (T : u_T) (ps : List Nat) (h : (List.range ps.length).all (fun k => decide (lw_tbl[ps.getD k 0]? = some (u_lay C T k)) && goodWord (u_lay C T k)) = true) (k : Nat) (hk : k < ps.length) : u_lay C T k ∈ qW := by
  have h1 := List.all_eq_true.mp h k (List.mem_range.mpr hk)
  simp only [Bool.and_eq_true, decide_eq_true_eq] at h1
  exact qW_mem h1.1 h1.2
theorem iqX0 : ∀ w ∈ u_ws RX0 TX0 10, w ∈ qW := by
  intro w hw
  obtain ⟨k, hk, rfl⟩ := List.mem_map.mp hw
  have hk := List.mem_range.mp hk
  exact qW_lay RX0 TX0 [122, 124, 126, 128, 130, 132, 134, 136, 138, 140] (by decide +kernel) k hk
theorem vqX0 : vwCl[0]? = some (RX0, TX0, 10) := rfl
theorem iqX1 : ∀ w ∈ u_ws RX1 TX1 4, w ∈ qW := by
  intro w hw
  obtain ⟨k, hk, rfl⟩ := List.mem_map.mp hw
  have hk := List.mem_range.mp hk
  exact qW_lay RX1 TX1 [300, 302, 304, 306] (by decide +kernel) k hk
theorem vqX1 : vwCl[1]? = some (RX1, TX1, 4) := rfl
theorem iqX2 : ∀ w ∈ u_ws RX2 TX2 3, w ∈ qW := by
  intro w hw
  obtain ⟨k, hk, rfl⟩ := List.mem_map.mp hw
  have hk := List.mem_range.mp hk
  exact qW_lay RX2 TX2 [282, 284, 286] (by decide +kernel) k hk
theorem vqX2 : vwCl[2]? = some (RX2, TX2, 3) := rfl
theorem iqX3 : ∀ w ∈ u_ws RX3 TX3 8, w ∈ qW := by
  intro w hw
  obtain ⟨k, hk, rfl⟩ := List.mem_map.mp hw
  have hk := List.mem_range.mp hk
  exact qW_lay RX3 TX3 [199, 201, 203, 205, 207, 209, 211, 213] (by decide +kernel) k hk
theorem vqX3 : vwCl[3]? = some (RX3, TX3, 8) := rfl
theorem iqX4 : ∀ w ∈ u_ws RX4 TX4 2, w ∈ qW := by
  intro w hw
  obtain ⟨k, hk, rfl⟩ := List.mem_map.mp hw
  have hk := List.mem_range.mp hk
  exact qW_lay RX4 TX4 [266, 268] (by decide +kernel) k hk
theorem vqX4 : vwCl[4]? = some (RX4, TX4, 2) := rfl
theorem iqX5 : ∀ w ∈ u_ws RX5 TX5 3, w ∈ qW := by
  intro w hw
  obtain ⟨k, hk, rfl⟩ := List.mem_map.mp hw
  have hk := List.mem_range.mp hk
  exact qW_lay RX5 TX5 [233, 235, 237] (by decide +kernel) k hk
theorem vqX5 : vwCl[5]? = some (RX5, TX5, 3) := rfl
theorem iqX6 : ∀ w ∈ u_ws RX6 TX6 8, w ∈ qW := by
  intro w hw
  obtain ⟨k, hk, rfl⟩ := List.mem_map.mp hw
  have hk := List.mem_range.mp hk
  exact qW_lay RX6 TX6 [159, 161, 163, 165, 167, 169, 171, 173] (by decide +kernel) k hk
theorem vqX6 : vwCl[6]? = some (RX6, TX6, 8) := rfl
theorem iqX7 : ∀ w ∈ u_ws RX7 TX7 2, w ∈ qW := by
  intro w hw
  obtain ⟨k, hk, rfl⟩ := List.mem_map.mp hw
  have hk := List.mem_range.mp hk
  exact qW_lay RX7 TX7 [251, 253] (by decide +kernel) k hk
theorem vqX7 : vwCl[7]? = some (RX7, TX7, 2) := rfl
theorem iqX9 : ∀ w ∈ u_ws RX9 TX9 16, w ∈ qW := by
  intro w hw
  obtain ⟨k, hk, rfl⟩ := List.mem_map.mp hw
  have hk := List.mem_range.mp hk
  exact qW_lay RX9 TX9 [325, 327, 329, 331, 333, 335, 337, 339, 341, 343, 345, 347, 349, 351, 353, 355] (by decide +kernel) k hk
theorem vqX9 : vwCl[8]? = some (RX9, TX9, 16) := rfl
theorem iqX10 : ∀ w ∈ u_ws RX10 TX10 42, w ∈ qW := by
  intro w hw
  obtain ⟨k, hk, rfl⟩ := List.mem_map.mp hw
  have hk := List.mem_range.mp hk
  exact qW_lay RX10 TX10 [818, 820, 822, 824, 826, 828, 830, 832, 834, 836, 838, 840, 842, 844, 846, 848, 850, 852, 854, 856, 858, 860, 862, 864, 866, 868, 870, 872, 874, 876, 878, 880, 882, 884, 886, 888, 890, 892, 894, 896, 898, 900] (by decide +kernel) k hk
theorem vqX10 : vwCl[9]? = some (RX10, TX10, 42) := rfl
end
section
/-! THE ABSTRACT HEAP: a partial map from addresses to cells; an array's first number is its KIND (0 int, 1 boolean, 2 Night), an object's the number of its class in vwCl -/
abbrev qH : Type := Nat → Option va_E
def qE (kz : Nat → Nat) (c : va_E) : va_E := match c with
  | .inl x => .inl (kz x.1, x.2)
  | .inr o => .inr o
def qA (b0 : Nat) : Nat → Prop := fun q => b0 ≤ q
def qR (D : va_G) (kz : Nat → Nat) (b0 : Nat) (X : qH) (H : Heap) : Prop := ∀ (a : Nat) (c : va_E), X a = some c → b0 ≤ a ∧ va_at D vwCl (a, qE kz c) H
abbrev qT (kz : Nat → Nat) : List (ClassId × FieldType) := [(kz 0, .int), (kz 1, .boolean), (kz 2, .object "FireworkDeeds$Night")]
/-- what isn't in wsL_law: private members of nest mates, arrays of Night -/
def qN (U : State) : Prop := va_Nw (.fieldLinkNest RX9 103 RX6 "faultAt" "I" RX9) U ∧ va_Nw (.methodLinkNest RX9 35 yX6_init RX9) U ∧ va_Nw (.methodLinkNest RX9 42 yX3_init RX9) U ∧ va_Nw (.methodLinkNest RX9 71 yX7_init RX9) U ∧ va_Nw (.methodLinkNest RX9 78 yX4_init RX9) U ∧ va_Nw (.methodLinkNest RX9 85 yX2_init RX9) U ∧ va_Nw (.methodLinkNest RX9 92 yX1_init RX9) U ∧ va_Nw (.methodLinkNest RX5 17 yX3_init RX9) U ∧ va_Nw (.methodLinkNest RX7 17 yX3_init RX9) U ∧ va_AO RX3 U
theorem qN.warm {s U : State} (hW : s.WarmedH U.vm) (h : qN s) : qN U := by
  obtain ⟨h1, h2, h3, h4, h5, h6, h7, h8, h9, h10⟩ := h
  exact ⟨h1.warmF hW, h2.warmM hW, h3.warmM hW, h4.warmM hW, h5.warmM hW, h6.warmM hW, h7.warmM hW, h8.warmM hW, h9.warmM hW, h10.moved hW.alike⟩
theorem qN.same {s U : State} (hW : s.vm = U.vm) (h : qN s) : qN U := by
  obtain ⟨h1, h2, h3, h4, h5, h6, h7, h8, h9, h10⟩ := h
  exact ⟨h1.same rfl hW, h2.same rfl hW, h3.same rfl hW, h4.same rfl hW, h5.same rfl hW, h6.same rfl hW, h7.same rfl hW, h8.same rfl hW, h9.same rfl hW, h10.moved (by rw [hW]; exact Vm.Alike.refl _)⟩
/-- what holds of the tables in a state -/
def qV (D : va_G) (kz : Nat → Nat) (U : State) : Prop := va_K D vwCl (qT kz) U ∧ qN U
theorem qV.warm {D : va_G} {kz : Nat → Nat} {s U : State} (hW : s.WarmedH U.vm) (h : qV D kz s) : qV D kz U := ⟨va_K.moved hW.alike h.1, h.2.warm hW⟩
def qU (D : va_G) (kz : Nat → Nat) (b0 : Nat) (X : qH) (U : State) : Prop := qR D kz b0 X U.heap ∧ qV D kz U ∧ b0 ≤ U.heap.size
/-- behind a method: the heap alone -/
def qO (D : va_G) (kz : Nat → Nat) (b0 : Nat) (X : qH) (U : State) : Prop := qR D kz b0 X U.heap ∧ b0 ≤ U.heap.size
/-! operations -/
def qgI (X : qH) (ci a k : Nat) : Option Int32 := match X a with
  | some (.inr (c, fs)) => if c = ci then (match fs[k]? with | some (.int v) => some v | _ => none) else none
  | _ => none
def qgR (X : qH) (ci a k : Nat) : Option Nat := match X a with
  | some (.inr (c, fs)) => if c = ci then (match fs[k]? with | some (.ref v) => some v | _ => none) else none
  | _ => none
def qp (X : qH) (ci a k : Nat) (v : Value) : Option qH := match X a with
  | some (.inr (c, fs)) => if c = ci ∧ k < fs.length then some (va_up X a (some (.inr (c, fs.set k v)))) else none
  | _ => none
def qpI (X : qH) (ci a k : Nat) (v : Int32) : Option qH := qp X ci a k (.int v)
def qpZ (X : qH) (ci a k : Nat) (v : Int32) : Option qH := if v = 0 ∨ v = 1 then qp X ci a k (.int v) else none
def qpR (X : qH) (ci a k : Nat) (v : Nat) : Option qH := qp X ci a k (.ref v)
def qaI (X : qH) (kd a : Nat) (i : Int32) : Option Int32 := match X a with
  | some (.inl (k, n, .inl f)) => if k = kd ∧ ¬ i < 0 ∧ i.toNatClampNeg < n then some (f i.toNatClampNeg) else none
  | _ => none
def qaS (X : qH) (kd a : Nat) (i x : Int32) : Option qH := match X a with
  | some (.inl (k, n, .inl f)) => if k = kd ∧ ¬ i < 0 ∧ i.toNatClampNeg < n then some (va_up X a (some (.inl (k, n, .inl (upd f i.toNatClampNeg x))))) else none
  | _ => none
def qaZ (X : qH) (a : Nat) (i x : Int32) : Option qH := if x = 0 ∨ x = 1 then qaS X 1 a i x else none
def qaR (X : qH) (a : Nat) (i : Int32) : Option Nat := match X a with
  | some (.inl (k, n, .inr (.inr (.inr (.inr f))))) => if k = 2 ∧ ¬ i < 0 ∧ i.toNatClampNeg < n then f i.toNatClampNeg else none
  | _ => none
def qaT (X : qH) (a : Nat) (i : Int32) (v : Nat) : Option qH := match X a, X v with
  | some (.inl (k, n, .inr (.inr (.inr (.inr f))))), some (.inr (c, _)) => if k = 2 ∧ c = 3 ∧ ¬ i < 0 ∧ i.toNatClampNeg < n then some (va_up X a (some (.inl (k, n, .inr (.inr (.inr (.inr (va_up f i.toNatClampNeg (some v))))))))) else none
  | _, _ => none
def qln (X : qH) (a : Nat) : Option Int32 := match X a with
  | some (.inl (k, n, .inl _)) => if k = 0 then some (Int32.ofNat n) else none
  | _ => none
def qIs {α : Type} (ci : Nat) (X : qH) (a : Nat) (x : Option α) : Option α := match X a with
  | some (.inr (c, _)) => if c = ci then x else none
  | _ => none
/-- a boolean answer is 0 or 1 -/
def qz (v : Int32) : Option Int32 := if v = 0 ∨ v = 1 then some v else none
/-- a name for a computed value -/
def qlt {α β : Type} (v : α) (k : α → β) : β := k v
/-- a division, where the divisor isn't 0 -/
def qnz {β : Type} (v : Int32) (k : Option β) : Option β := if v = 0 then none else k
def qnzL {β : Type} (v : Int64) (k : Option β) : Option β := if v = 0 then none else k
/-! eliminations -/
theorem q_b {α β : Type} {x : Option α} {k : α → Option β} {r : β} (h : x.bind k = some r) : ∃ v, x = some v ∧ k v = some r := Option.bind_eq_some_iff.mp h
theorem q_t {c : Prop} [Decidable c] {α : Type} {a b : Option α} {r : α} (h : (if c then a else b) = some r) (hc : c) : a = some r := by rwa [if_pos hc] at h
theorem q_f {c : Prop} [Decidable c] {α : Type} {a b : Option α} {r : α} (h : (if c then a else b) = some r) (hc : ¬ c) : b = some r := by rwa [if_neg hc] at h
theorem q_tn {c : Prop} [Decidable c] {α : Type} {a b : Option α} {r : α} (h : (if c then a else b) = some r) (hc : ¬ ¬ c) : a = some r := by rwa [if_pos (Decidable.not_not.mp hc)] at h
theorem qnz_spec {β : Type} {v : Int32} {k : Option β} {r : β} (h : qnz v k = some r) : ¬ v = 0 ∧ k = some r := by
  unfold qnz at h
  split at h
  · cases h
  · rename_i hv; exact ⟨hv, h⟩
theorem qnzL_spec {β : Type} {v : Int64} {k : Option β} {r : β} (h : qnzL v k = some r) : ¬ v = 0 ∧ k = some r := by
  unfold qnzL at h
  split at h
  · cases h
  · rename_i hv; exact ⟨hv, h⟩
theorem qz_spec {v r : Int32} (h : qz v = some r) : v = r ∧ (v = 0 ∨ v = 1) := by
  unfold qz at h
  split at h
  · rename_i hv; exact ⟨Option.some.inj h, hv⟩
  · cases h
theorem qIs_spec {α : Type} {ci : Nat} {X : qH} {a : Nat} {x : Option α} {r : α} (h : qIs ci X a x = some r) : (∃ fs, X a = some (.inr (ci, fs))) ∧ x = some r := by
  unfold qIs at h
  split at h
  · rename_i c fs hX
    split at h
    · rename_i hc; subst hc; exact ⟨⟨fs, hX⟩, h⟩
    · cases h
  · cases h
theorem qgI_spec {X : qH} {ci a k : Nat} {v : Int32} (h : qgI X ci a k = some v) : ∃ fs, X a = some (.inr (ci, fs)) ∧ fs[k]? = some (.int v) := by
  unfold qgI at h
  split at h
  · rename_i c fs hX
    split at h
    · rename_i hc; subst hc
      split at h
      · rename_i w hw; cases h; exact ⟨fs, hX, hw⟩
      · cases h
    · cases h
  · cases h
theorem qgR_spec {X : qH} {ci a k : Nat} {v : Nat} (h : qgR X ci a k = some v) : ∃ fs, X a = some (.inr (ci, fs)) ∧ fs[k]? = some (.ref v) := by
  unfold qgR at h
  split at h
  · rename_i c fs hX
    split at h
    · rename_i hc; subst hc
      split at h
      · rename_i w hw; cases h; exact ⟨fs, hX, hw⟩
      · cases h
    · cases h
  · cases h
theorem qp_spec {X X2 : qH} {ci a k : Nat} {v : Value} (h : qp X ci a k v = some X2) : ∃ fs, X a = some (.inr (ci, fs)) ∧ k < fs.length ∧ X2 = va_up X a (some (.inr (ci, fs.set k v))) := by
  unfold qp at h
  split at h
  · rename_i c fs hX
    split at h
    · rename_i hc; obtain ⟨rfl, hk⟩ := hc; cases h; exact ⟨fs, hX, hk, rfl⟩
    · cases h
  · cases h
theorem qpZ_spec {X X2 : qH} {ci a k : Nat} {v : Int32} (h : qpZ X ci a k v = some X2) : (v = 0 ∨ v = 1) ∧ qp X ci a k (.int v) = some X2 := by
  unfold qpZ at h
  split at h
  · rename_i hv; exact ⟨hv, h⟩
  · cases h
theorem q_vpin {i : Int32} {n : Nat} (h1 : ¬ i < 0) (h2 : i.toNatClampNeg < n) : vp_in i n := fun q => q.elim h1 (fun q => Nat.not_le.mpr h2 q)
theorem qaI_spec {X : qH} {kd a : Nat} {i v : Int32} (h : qaI X kd a i = some v) : ∃ n f, X a = some (.inl (kd, n, .inl f)) ∧ vp_in i n ∧ v = f i.toNatClampNeg := by
  unfold qaI at h
  split at h
  · rename_i k n f hX
    split at h
    · rename_i hc; obtain ⟨rfl, h1, h2⟩ := hc; cases h; exact ⟨n, f, hX, q_vpin h1 h2, rfl⟩
    · cases h
  · cases h
theorem qaS_spec {X X2 : qH} {kd a : Nat} {i x : Int32} (h : qaS X kd a i x = some X2) : ∃ n f, X a = some (.inl (kd, n, .inl f)) ∧ vp_in i n ∧ X2 = va_up X a (some (.inl (kd, n, .inl (upd f i.toNatClampNeg x)))) := by
  unfold qaS at h
  split at h
  · rename_i k n f hX
    split at h
    · rename_i hc; obtain ⟨rfl, h1, h2⟩ := hc; cases h; exact ⟨n, f, hX, q_vpin h1 h2, rfl⟩
    · cases h
  · cases h
theorem qaZ_spec {X X2 : qH} {a : Nat} {i x : Int32} (h : qaZ X a i x = some X2) : (x = 0 ∨ x = 1) ∧ qaS X 1 a i x = some X2 := by
  unfold qaZ at h
  split at h
  · rename_i hv; exact ⟨hv, h⟩
  · cases h
theorem qaR_spec {X : qH} {a : Nat} {i : Int32} {v : Nat} (h : qaR X a i = some v) : ∃ n f, X a = some (.inl (2, n, .inr (.inr (.inr (.inr f))))) ∧ vp_in i n ∧ f i.toNatClampNeg = some v := by
  unfold qaR at h
  split at h
  · rename_i k n f hX
    split at h
    · rename_i hc; obtain ⟨rfl, h1, h2⟩ := hc; exact ⟨n, f, hX, q_vpin h1 h2, h⟩
    · cases h
  · cases h
theorem qaT_spec {X X2 : qH} {a : Nat} {i : Int32} {v : Nat} (h : qaT X a i v = some X2) : ∃ n f fs, X a = some (.inl (2, n, .inr (.inr (.inr (.inr f))))) ∧ X v = some (.inr (3, fs)) ∧ vp_in i n ∧ X2 = va_up X a (some (.inl (2, n, .inr (.inr (.inr (.inr (va_up f i.toNatClampNeg (some v)))))))) := by
  unfold qaT at h
  split at h
  · rename_i k n f c fs hX hV
    split at h
    · rename_i hc; obtain ⟨rfl, rfl, h1, h2⟩ := hc; cases h; exact ⟨n, f, fs, hX, hV, q_vpin h1 h2, rfl⟩
    · cases h
  · cases h
theorem qln_spec {X : qH} {a : Nat} {v : Int32} (h : qln X a = some v) : ∃ n f, X a = some (.inl (0, n, .inl f)) ∧ Int32.ofNat n = v := by
  unfold qln at h
  split at h
  · rename_i k n f hX
    split at h
    · rename_i hc; subst hc; exact ⟨n, f, hX, Option.some.inj h⟩
    · cases h
  · cases h
theorem q_nar {v : Int32} (h : v = 0 ∨ v = 1) : narrow .boolean (.int v) = .int v := by rcases h with rfl | rfl <;> rfl
theorem q_vnar {v : Int32} (h : v = 0 ∨ v = 1) : vp_nar .boolean v = v := by rcases h with rfl | rfl <;> rfl
theorem q_fit {v : Int32} (h : v = 0 ∨ v = 1) : fits .boolean (.int v) = true := by rcases h with rfl | rfl <;> rfl
theorem qR.P {D : va_G} {kz : Nat → Nat} {b0 : Nat} {X : qH} {H : Heap} {a : Nat} {c : va_E} (h : qR D kz b0 X H) (ha : X a = some c) : va_P D vwCl [(a, qE kz c)] H := by
  intro k q hk
  have hz : k < 1 := (List.getElem?_eq_some_iff.mp hk).1
  rw [show k = 0 by omega] at hk
  cases hk
  exact (h a c ha).2
/-- one cell is written, the others stay -/
theorem qR.set {D : va_G} {kz : Nat → Nat} {b0 : Nat} {X : qH} {H H1 : Heap} {a : Nat} {c : va_E} (h : qR D kz b0 X H) (hb : b0 ≤ a) (hc : va_at D vwCl (a, qE kz c) H1) (oq : ∀ q : Nat, q ≠ a → H1[q]? = H[q]?) : qR D kz b0 (va_up X a (some c)) H1 := by
  intro x d hx
  by_cases he : x = a
  · subst he
    simp only [va_up, if_true] at hx
    cases hx
    exact ⟨hb, hc⟩
  · simp only [va_up, if_neg he] at hx
    exact ⟨(h x d hx).1, (h x d hx).2.kept (oq x he)⟩
theorem qR.kept {D : va_G} {kz : Nat → Nat} {b0 : Nat} {X : qH} {H H1 : Heap} (h : qR D kz b0 X H) (oq : ∀ q : Nat, q < H.size → H1[q]? = H[q]?) : qR D kz b0 X H1 :=
  fun x d hx => ⟨(h x d hx).1, (h x d hx).2.kept (oq x (h x d hx).2.lt)⟩
theorem qU.blind {D : va_G} {kz : Nat → Nat} {b0 : Nat} {X : qH} {av : List Value} : FrameBlind (va_Pc av (qU D kz b0 X)) := fun a U g mk q => by
  obtain ⟨q0, qr, ⟨qK, qn⟩, qz⟩ := q
  exact ⟨q0, qr, ⟨va_K.moved (u := U) (U := U.calling g mk a) (Vm.Alike.refl U.vm) qK, qn.same (U := U.calling g mk a) rfl⟩, qz⟩
theorem q_preS {D : va_G} {kz : Nat → Nat} {b0 : Nat} {X : qH} {s : State} {H : Heap} {As : List Value} (hR : qR D kz b0 X H) (hK : qV D kz s) (hz : b0 ≤ H.size) : PreS s H (va_Pc As (qU D kz b0 X)) As :=
  ⟨qU.blind, fun U hU hW => ⟨rfl, by rw [hU]; exact hR, hK.warm hW, by rw [hU]; exact hz⟩⟩
theorem q_preV {D : va_G} {kz : Nat → Nat} {b0 : Nat} {X : qH} {s : State} {H : Heap} {As : List Value} {ci b N : Nat} {T : u_T} {C : String} (hc : vwCl[ci]? = some (C, T, N)) (hX : ∃ fs, X b = some (.inr (ci, fs))) (hR : qR D kz b0 X H) (hK : qV D kz s) (hz : b0 ≤ H.size) : PreV s H C b (va_Pc (.ref b :: As) (qU D kz b0 X)) As :=
  ⟨qU.blind, (by obtain ⟨fs, hX⟩ := hX; exact va_recv hK.1 (hR.P hX) hc (q0 := 0) (ci := ci) (fs := fs) rfl), fun U hU hW => ⟨rfl, by rw [hU]; exact hR, hK.warm hW, by rw [hU]; exact hz⟩⟩
section QW
variable {p : Program} {l : Launch} {e : Env} {R : Room} {s : State} {m : MethodId} {args : Array Value} {below : List Frame} {meth : Method} {c : Code} {H : Heap} {locs : List Loc} {cells slots : Nat} {Q : State → Prop}
variable {cc : ByteArray} {pc : Nat} {ls : Array Slot} {rest st0 : List Value} {D : va_G} {kz : Nat → Nat} {b0 a : Nat} {X : qH} {H0 : Heap} {own : String} {T : u_T} {N ci index : Nat} {C : String} {Ts : List Cond} {ρ : Type} {res : ρ}
theorem q_gI (hx : p.tables.exec = Jvm.exec) (hb : c.code = cc) (hts : ∀ w ∈ Ts, w.before args s = true) (hown : s.vm.findClass own = some m.cls) (hK : qV D kz s) (hR : qR D kz b0 X H) (hin : ∀ w ∈ u_ws C T N, w ∈ Ts) (hc : vwCl[ci]? = some (C, T, N)) (k : Nat) (hk : k < N) (hlink : (Cond.fieldLink own index (T k).1 (T k).2.1 (T k).2.2.1).before args s = true) {K : Int32 → Option ρ} (hf : (qgI X ci a k).bind K = some res) (hdg : decode cc pc = .ok (.getfield index, 3))
    (kk : ∀ v : Int32, K v = some res → W p l e R s m args below meth c H locs cells slots Q (F0 m (pc + 3) ls (.int v :: rest))) : W p l e R s m args below meth c H locs cells slots Q (F0 m pc ls (.ref a :: rest)) := by
  obtain ⟨v, hv, hf⟩ := q_b hf
  obtain ⟨fs, hX, hv⟩ := qgI_spec hv
  exact va_get hx hb hts hin hown hK.1 (hR.P hX) 0 rfl hc k hk hlink (fun _ h => h) hv hdg (kk v hf)
theorem q_gR (hx : p.tables.exec = Jvm.exec) (hb : c.code = cc) (hts : ∀ w ∈ Ts, w.before args s = true) (hown : s.vm.findClass own = some m.cls) (hK : qV D kz s) (hR : qR D kz b0 X H) (hin : ∀ w ∈ u_ws C T N, w ∈ Ts) (hc : vwCl[ci]? = some (C, T, N)) (k : Nat) (hk : k < N) (hlink : (Cond.fieldLink own index (T k).1 (T k).2.1 (T k).2.2.1).before args s = true) {K : Nat → Option ρ} (hf : (qgR X ci a k).bind K = some res) (hdg : decode cc pc = .ok (.getfield index, 3))
    (kk : ∀ v : Nat, K v = some res → W p l e R s m args below meth c H locs cells slots Q (F0 m (pc + 3) ls (.ref v :: rest))) : W p l e R s m args below meth c H locs cells slots Q (F0 m pc ls (.ref a :: rest)) := by
  obtain ⟨v, hv, hf⟩ := q_b hf
  obtain ⟨fs, hX, hv⟩ := qgR_spec hv
  exact va_get hx hb hts hin hown hK.1 (hR.P hX) 0 rfl hc k hk hlink (fun _ h => h) hv hdg (kk v hf)
/-- a nest mate's private field -/
theorem q_gIN {host : String} (hx : p.tables.exec = Jvm.exec) (hb : c.code = cc) (hts : ∀ w ∈ Ts, w.before args s = true) (hown : s.vm.findClass own = some m.cls) (hK : qV D kz s) (hR : qR D kz b0 X H) (hin : ∀ w ∈ u_ws C T N, w ∈ Ts) (hc : vwCl[ci]? = some (C, T, N)) (k : Nat) (hk : k < N) (hlink : (Cond.fieldLinkNest own index (T k).1 (T k).2.1 (T k).2.2.1 host).before args s = true) {K : Int32 → Option ρ} (hf : (qgI X ci a k).bind K = some res) (hdg : decode cc pc = .ok (.getfield index, 3))
    (kk : ∀ v : Int32, K v = some res → W p l e R s m args below meth c H locs cells slots Q (F0 m (pc + 3) ls (.int v :: rest))) : W p l e R s m args below meth c H locs cells slots Q (F0 m pc ls (.ref a :: rest)) := by
  obtain ⟨v, hv, hf⟩ := q_b hf
  obtain ⟨fs, hX, hv⟩ := qgI_spec hv
  exact va_getN hx hb hts hin hown hK.1 (hR.P hX) 0 rfl hc k hk hlink (fun _ h => h) hv hdg (kk v hf)
theorem q_iald (hx : p.tables.exec = Jvm.exec) (hb : c.code = cc) (hK : qV D kz s) (hR : qR D kz b0 X H) {i : Int32} {K : Int32 → Option ρ} (hf : (qaI X 0 a i).bind K = some res) (hdg : decode cc pc = .ok (.iaload, 1))
    (kk : ∀ v : Int32, K v = some res → W p l e R s m args below meth c H locs cells slots Q (F0 m (pc + 1) ls (.int v :: rest))) : W p l e R s m args below meth c H locs cells slots Q (F0 m pc ls (.int i :: .ref a :: rest)) := by
  obtain ⟨v, hv, hf⟩ := q_b hf
  obtain ⟨n, f, hX, hin, rfl⟩ := qaI_spec hv
  exact va_iald hx hb hK.1 (hR.P hX) 0 0 rfl rfl hin hdg (kk _ hf)
theorem q_zald (hx : p.tables.exec = Jvm.exec) (hb : c.code = cc) (hK : qV D kz s) (hR : qR D kz b0 X H) {i : Int32} {K : Int32 → Option ρ} (hf : (qaI X 1 a i).bind K = some res) (hdg : decode cc pc = .ok (.baload, 1))
    (kk : ∀ v : Int32, K v = some res → W p l e R s m args below meth c H locs cells slots Q (F0 m (pc + 1) ls (.int v :: rest))) : W p l e R s m args below meth c H locs cells slots Q (F0 m pc ls (.int i :: .ref a :: rest)) := by
  obtain ⟨v, hv, hf⟩ := q_b hf
  obtain ⟨n, f, hX, hin, rfl⟩ := qaI_spec hv
  exact va_zald hx hb hK.1 (hR.P hX) 0 1 rfl rfl hin hdg (kk _ hf)
theorem q_aald (hx : p.tables.exec = Jvm.exec) (hb : c.code = cc) (hK : qV D kz s) (hR : qR D kz b0 X H) {i : Int32} {K : Nat → Option ρ} (hf : (qaR X a i).bind K = some res) (hdg : decode cc pc = .ok (.aaload, 1))
    (kk : ∀ v : Nat, K v = some res → W p l e R s m args below meth c H locs cells slots Q (F0 m (pc + 1) ls (.ref v :: rest))) : W p l e R s m args below meth c H locs cells slots Q (F0 m pc ls (.int i :: .ref a :: rest)) := by
  obtain ⟨v, hv, hf⟩ := q_b hf
  obtain ⟨n, f, hX, hin, hv⟩ := qaR_spec hv
  have := kk v hf
  exact va_aldq hx hb hK.1 (hR.P hX) 0 2 rfl rfl hin hdg (by rw [hv]; exact this)
theorem q_alen (hx : p.tables.exec = Jvm.exec) (hb : c.code = cc) (hK : qV D kz s) (hR : qR D kz b0 X H) {K : Int32 → Option ρ} (hf : (qln X a).bind K = some res) (hdg : decode cc pc = .ok (.arraylength, 1))
    (kk : ∀ v : Int32, K v = some res → W p l e R s m args below meth c H locs cells slots Q (F0 m (pc + 1) ls (.int v :: rest))) : W p l e R s m args below meth c H locs cells slots Q (F0 m pc ls (.ref a :: rest)) := by
  obtain ⟨v, hv, hf⟩ := q_b hf
  obtain ⟨n, f, hX, hv⟩ := qln_spec hv
  exact va_alen hx hb hK.1 (hR.P hX) 0 0 rfl rfl hv hdg (kk v hf)
end QW
end
section
section QW2
variable {p : Program} {l : Launch} {e : Env} {R : Room} {s : State} {m : MethodId} {args : Array Value} {below : List Frame} {meth : Method} {c : Code} {H : Heap} {locs : List Loc} {cells slots : Nat} {Q : State → Prop}
variable {cc : ByteArray} {pc : Nat} {ls : Array Slot} {rest st0 : List Value} {D : va_G} {kz : Nat → Nat} {b0 a : Nat} {X : qH} {H0 : Heap} {own : String} {T : u_T} {N ci index : Nat} {C : String} {Ts : List Cond} {ρ : Type} {res : ρ}
/-- putfield, a field that isn't final -/
theorem q_put0 (hx : p.tables.exec = Jvm.exec) (hb : c.code = cc) (hts : ∀ w ∈ Ts, w.before args s = true) (hown : s.vm.findClass own = some m.cls) (hK : qV D kz s) (hR : qR D kz b0 X H) (hS0 : va_S (qA b0) H0 H locs) (hz : b0 ≤ H.size) (hin : ∀ w ∈ u_ws C T N, w ∈ Ts) (hc : vwCl[ci]? = some (C, T, N)) (ty0 : Nat → FieldType) (hty : ∀ k, k < N → parseFieldDescriptor (T k).2.2.1 = some (ty0 k)) (hnm : ∀ a, a < N → ∀ b, b < N → a ≠ b → (T a).2.1 ≠ (T b).2.1) (k : Nat) (hk : k < N) (hlink : (Cond.fieldLink own index (T k).1 (T k).2.1 (T k).2.2.1).before args s = true) (hfin : (T k).2.2.2 = false) {v : Value} (hn : narrow (ty0 k) v = v) (hfit : fits (ty0 k) v = true) {X2 : qH} (hf : qp X ci a k v = some X2) (hdg : decode cc pc = .ok (.putfield index, 3))
    (kk : ∀ (H : Heap) (locs : List Loc), qR D kz b0 X2 H → va_S (qA b0) H0 H locs → b0 ≤ H.size → W p l e R s m args below meth c H locs cells slots Q (F0 m (pc + 3) ls rest)) : W p l e R s m args below meth c H locs cells slots Q (F0 m pc ls (v :: .ref a :: rest)) := by
  obtain ⟨fs, hX, hl, rfl⟩ := qp_spec hf
  have hap := va_apart (own := own) hts hin ty0 hty hnm hK.1 hc
  obtain ⟨hba, r, h1, cell, q1, q2, q3, q4⟩ := hR a _ hX
  have hr : r = (C, T, N) := Option.some.inj (h1.symm.trans hc)
  subst hr
  obtain ⟨hS, hfc, kC, hkC, hkind⟩ := hK.1.1 ci _ hc
  obtain ⟨cf, kf, fi, f, hi, hsl⟩ := hS k hk
  have hlay := hts _ (hin _ (u_in_lay hk))
  unfold u_lay at hlay
  rw [if_neg (by rw [hfin]; decide)] at hlay
  have hst := (u_facts hfc hkC (u_lays hts hin hk) hi).1
  have h6 := u_store hfc hkC hkind hlay hi (hty k hk) hn hfit
  refine W.putK hx hb (f := f) ⟨hown, hlink, ⟨_, _, _, hi⟩, hst⟩ (by rw [q2]; exact h6) q1 q3 (by rw [hsl]; exact k2_hasslot (q4 k hk)) rfl rfl hdg fun H' e1 e2 e3 => ?_
  rw [hsl] at e1 ⊢
  exact kk H' _ (hR.set hba ⟨_, hc, t_OB.to (V := updV (vp_V fs) k v) ⟨_, e1, q2, q3, t_set q4 hap hk v⟩ (fun j _ => vp_updV_set hl v j)⟩ e3) (hS0.put e2 e3 hba) (by rw [e2]; exact hz)
/-- putfield, a final field in its constructor -/
theorem q_putF (hx : p.tables.exec = Jvm.exec) (hb : c.code = cc) (hts : ∀ w ∈ Ts, w.before args s = true) (hown : s.vm.findClass own = some m.cls) (hK : qV D kz s) (hR : qR D kz b0 X H) (hS0 : va_S (qA b0) H0 H locs) (hin : ∀ w ∈ u_ws C T N, w ∈ Ts) (hc : vwCl[ci]? = some (C, T, N)) (ty0 : Nat → FieldType) (hty : ∀ k, k < N → parseFieldDescriptor (T k).2.2.1 = some (ty0 k)) (hnm : ∀ a, a < N → ∀ b, b < N → a ≠ b → (T a).2.1 ≠ (T b).2.1) (k : Nat) (hk : k < N) (hlink : (Cond.fieldLink own index (T k).1 (T k).2.1 (T k).2.2.1).before args s = true) (hfin : (T k).2.2.2 = true) (hin2 : meth.name = "<init>") (hdecl : (T k).1 = own) {v : Value} (hn : narrow (ty0 k) v = v) (hfit : fits (ty0 k) v = true) {X2 : qH} (hf : qp X ci a k v = some X2) (hdg : decode cc pc = .ok (.putfield index, 3))
    (kk : ∀ (H1 : Heap) (locs : List Loc), qR D kz b0 X2 H1 → va_S (qA b0) H0 H1 locs → H1.size = H.size → W p l e R s m args below meth c H1 locs cells slots Q (F0 m (pc + 3) ls rest)) : W p l e R s m args below meth c H locs cells slots Q (F0 m pc ls (v :: .ref a :: rest)) := by
  obtain ⟨fs, hX, hl, rfl⟩ := qp_spec hf
  have hap := va_apart (own := own) hts hin ty0 hty hnm hK.1 hc
  obtain ⟨hba, r, h1, cell, q1, q2, q3, q4⟩ := hR a _ hX
  have hr : r = (C, T, N) := Option.some.inj (h1.symm.trans hc)
  subst hr
  obtain ⟨hS, hfc, kC, hkC, hkind⟩ := hK.1.1 ci _ hc
  obtain ⟨cf, kf, fi, f, hi, hsl⟩ := hS k hk
  have hlay := hts _ (hin _ (u_in_lay hk))
  unfold u_lay at hlay
  rw [if_pos hfin] at hlay
  have hst := (u_facts hfc hkC (u_lays hts hin hk) hi).1
  have hcf : m.cls = cf := by
    obtain ⟨_, _, c', _, _, _, -, -, hf', -, -, -, hown2, -⟩ := Cond.laysFinal_spec hlay
    have e1 : c' = cf := by have := hi.symm.trans hf'; simp at this; exact this.1.symm
    rw [hdecl] at hown2
    rw [← e1]; exact Option.some.inj (hown.symm.trans hown2)
  have h6 := u_fits hfc hkC hkind (Or.inr hlay) hi (hty k hk) hn hfit
  refine W.putFinK hx hb hown hlink hi hst hcf hin2 (by rw [q2]; exact h6) q1 q3 (by rw [hsl]; exact k2_hasslot (q4 k hk)) rfl rfl hdg fun H' e1 e2 e3 => ?_
  rw [hsl] at e1 ⊢
  exact kk H' _ (hR.set hba ⟨_, hc, t_OB.to (V := updV (vp_V fs) k v) ⟨_, e1, q2, q3, t_set q4 hap hk v⟩ (fun j _ => vp_updV_set hl v j)⟩ e3) (hS0.put e2 e3 hba) e2
/-- a field of a new object in its constructor that isn't final: the size is told -/
theorem q_iast (hx : p.tables.exec = Jvm.exec) (hb : c.code = cc) (hK : qV D kz s) (hR : qR D kz b0 X H) (hS : va_S (qA b0) H0 H locs) (hz : b0 ≤ H.size) {i x : Int32} {K : qH → Option ρ} (hf : (qaS X 0 a i x).bind K = some res) (hdg : decode cc pc = .ok (.iastore, 1))
    (kk : ∀ (X : qH), K X = some res → ∀ (H : Heap) (locs : List Loc), qR D kz b0 X H → va_S (qA b0) H0 H locs → b0 ≤ H.size → W p l e R s m args below meth c H locs cells slots Q (F0 m (pc + 1) ls rest)) : W p l e R s m args below meth c H locs cells slots Q (F0 m pc ls (.int x :: .int i :: .ref a :: rest)) := by
  obtain ⟨X2, hv, hf⟩ := q_b hf
  obtain ⟨n, f, hX, hin, rfl⟩ := qaS_spec hv
  obtain ⟨hba, hat⟩ := hR a _ hX
  refine W.iast hx hb hat ((hK.1.2 0 _ rfl).1 n (fun j => .int (f j))) (fun q => by cases q) (by show ¬ (i < 0 ∨ (arrV _ _ _).slots.size ≤ _); rw [arrV_size]; exact hin) rfl rfl hdg fun H1 e z oq => ?_
  refine kk _ hf H1 _ (hR.set hba ?_ oq) (hS.put z oq hba) (by rw [z]; exact hz)
  show H1[a]? = some (vp_cell _ _)
  rw [e]
  show some (Cell.setSlot (vp_cell _ _) _ _) = _
  rw [vp_cell_i, vp_cell_i, arrV_store]
  congr 2
  funext q
  by_cases hq : q = i.toNatClampNeg
  · subst hq
    simp [updV, upd]
  · simp [updV, upd, hq]
theorem q_zast (hx : p.tables.exec = Jvm.exec) (hb : c.code = cc) (hK : qV D kz s) (hR : qR D kz b0 X H) (hS : va_S (qA b0) H0 H locs) (hz : b0 ≤ H.size) {i x : Int32} {K : qH → Option ρ} (hf : (qaZ X a i x).bind K = some res) (hdg : decode cc pc = .ok (.bastore, 1))
    (kk : ∀ (X : qH), K X = some res → ∀ (H : Heap) (locs : List Loc), qR D kz b0 X H → va_S (qA b0) H0 H locs → b0 ≤ H.size → W p l e R s m args below meth c H locs cells slots Q (F0 m (pc + 1) ls rest)) : W p l e R s m args below meth c H locs cells slots Q (F0 m pc ls (.int x :: .int i :: .ref a :: rest)) := by
  obtain ⟨X2, hv, hf⟩ := q_b hf
  obtain ⟨hx01, hv⟩ := qaZ_spec hv
  obtain ⟨n, f, hX, hin, rfl⟩ := qaS_spec hv
  obtain ⟨hba, hat⟩ := hR a _ hX
  refine W.zast hx hb hat ((hK.1.2 1 _ rfl).1 n (fun j => .int (f j))) (fun q => by cases q) (by show ¬ (i < 0 ∨ (arrV _ _ _).slots.size ≤ _); rw [arrV_size]; exact hin) rfl rfl hdg fun H1 e z oq => ?_
  refine kk _ hf H1 _ (hR.set hba ?_ oq) (hS.put z oq hba) (by rw [z]; exact hz)
  show H1[a]? = some (vp_cell _ _)
  rw [e]
  show some (Cell.setSlot (vp_cell _ _) _ _) = _
  rw [vp_cell_i, vp_cell_i, arrV_store, q_nar hx01]
  congr 2
  funext q
  by_cases hq : q = i.toNatClampNeg
  · subst hq
    simp [updV, upd]
  · simp [updV, upd, hq]
/-- calls -/
theorem q_calli {a9 : Array Value} {r : Int32} {X2 : qH} (hr : va_Run p l e R s m args below meth c H locs cells slots 0 0 (F0 m pc ls st0) rest (va_Qi (fun (r' : Int32) (u : qH) => r' = r ∧ u = X2) (fun u t => qO D kz b0 u t) (qA b0) a9) (qA b0)) (hS : va_S (qA b0) H0 H locs)
    (kk : ∀ (H1 : Heap) (locs1 : List Loc), qR D kz b0 X2 H1 → va_S (qA b0) H0 H1 locs1 → b0 ≤ H1.size → W p l e R s m args below meth c H1 locs1 cells slots Q (F0 m (pc + 3) ls (.int r :: rest))) : W p l e R s m args below meth c H locs cells slots Q (F0 m pc ls st0) := by
  refine va_calli hr hS (fun _ _ h => h) (fun _ h => h) (fun r1 u t H1 locs1 ht hvm hp hB _ _ hS1 => ?_)
  obtain ⟨rfl, rfl⟩ := hp
  exact kk H1 locs1 (by rw [← ht]; exact hB.1) hS1 (by rw [← ht]; exact hB.2)
theorem q_callv {a9 : Array Value} {X2 : qH} (hr : va_Run p l e R s m args below meth c H locs cells slots 0 0 (F0 m pc ls st0) rest (va_Qv (fun (u : qH) => u = X2) (fun u t => qO D kz b0 u t) (qA b0) a9) (qA b0)) (hS : va_S (qA b0) H0 H locs)
    (kk : ∀ (H1 : Heap) (locs1 : List Loc), qR D kz b0 X2 H1 → va_S (qA b0) H0 H1 locs1 → b0 ≤ H1.size → W p l e R s m args below meth c H1 locs1 cells slots Q (F0 m (pc + 3) ls rest)) : W p l e R s m args below meth c H locs cells slots Q (F0 m pc ls st0) := by
  refine va_callv hr hS (fun _ _ h => h) (fun _ h => h) (fun u t H1 locs1 ht hvm hp hB _ _ hS1 => ?_)
  subst hp
  exact kk H1 locs1 (by rw [← ht]; exact hB.1) hS1 (by rw [← ht]; exact hB.2)
/-- returns -/
theorem q_iret {r v : Int32} {X2 : qH} (hx : p.tables.exec = Jvm.exec) (hb : c.code = cc) (hr : meth.sig.returnType = some .int) (hlocks : meth.locks = false) (hR : qR D kz b0 X H) (hS : va_S (qA b0) s.heap H locs) (hz : b0 ≤ H.size) (h1 : v = r) (h2 : X = X2) (hdg : decode cc pc = .ok (.ireturn, 1)) :
    W p l e R s m args below meth c H locs cells slots (MQ below (va_Qi (fun (r' : Int32) (u : qH) => r' = r ∧ u = X2) (fun u t => qO D kz b0 u t) (qA b0)) args s cells slots (qA b0)) (F0 m pc ls [.int v]) := by
  subst h1; subst h2
  exact W.iret hx hb hr (fun t ht hW => ⟨⟨v, X, rfl, ⟨rfl, rfl⟩, by rw [← ht] at hR; exact hR, by rw [ht]; exact hz⟩, hS.F ht⟩) hS.2.2 hdg
theorem q_zret {r v : Int32} {X2 : qH} (hx : p.tables.exec = Jvm.exec) (hb : c.code = cc) (hr : meth.sig.returnType = some .boolean) (hlocks : meth.locks = false) (hR : qR D kz b0 X H) (hS : va_S (qA b0) s.heap H locs) (hz : b0 ≤ H.size) (h1 : v = r) (h01 : v = 0 ∨ v = 1) (h2 : X = X2) (hdg : decode cc pc = .ok (.ireturn, 1)) :
    W p l e R s m args below meth c H locs cells slots (MQ below (va_Qi (fun (r' : Int32) (u : qH) => r' = r ∧ u = X2) (fun u t => qO D kz b0 u t) (qA b0)) args s cells slots (qA b0)) (F0 m pc ls [.int v]) := by
  subst h1; subst h2
  exact W.zret hx hb hr (q_nar h01) (fun t ht hW => ⟨⟨v, X, rfl, ⟨rfl, rfl⟩, by rw [← ht] at hR; exact hR, by rw [ht]; exact hz⟩, hS.F ht⟩) hS.2.2 hdg
theorem q_vret {X2 : qH} (hx : p.tables.exec = Jvm.exec) (hb : c.code = cc) (hr : meth.sig.returnType = none) (hlocks : meth.locks = false) (hR : qR D kz b0 X H) (hS : va_S (qA b0) s.heap H locs) (hz : b0 ≤ H.size) (h2 : X = X2) (hdg : decode cc pc = .ok (.return_, 1)) :
    W p l e R s m args below meth c H locs cells slots (MQ below (va_Qv (fun (u : qH) => u = X2) (fun u t => qO D kz b0 u t) (qA b0)) args s cells slots (qA b0)) (F0 m pc ls []) := by
  subst h2
  exact W.vret hx hb hr (fun t ht hW => ⟨⟨X, rfl, rfl, by rw [← ht] at hR; exact hR, by rw [ht]; exact hz⟩, hS.F ht⟩) hS.2.2 hdg
end QW2
/-- the words of a method: its code, and all good words of the tables -/
abbrev qws (y : MethodName) (b : ByteArray) (n : Nat) (ret : Option FieldType) : List Cond := .code y b n ret :: qW
theorem q_gI0 {y y2 : MethodName} {b b2 : ByteArray} {n n2 : Nat} {ret ret2 : Option FieldType} (h : Cond.code y2 b2 n2 ret2 ∈ qW) : GoodIn (qws y b n ret) (qws y2 b2 n2 ret2) := fun w hw => by
  have hm : w ∈ qW := (List.mem_cons.mp hw).elim (fun e => by rw [e]; exact h) id
  exact ⟨List.mem_cons_of_mem _ hm, good_of_word (qW_good hm)⟩
theorem q_gV {y y2 : MethodName} {b b2 : ByteArray} {n n2 : Nat} {ret ret2 : Option FieldType} {own C : String} {idx : Nat} (h : Cond.code y2 b2 n2 ret2 ∈ qW) (h1 : Cond.methodLink own idx y2 ∈ qW) (h2 : Cond.instanceMethod y2 ∈ qW) (h3 : Cond.selects C y2 y2 ∈ qW) (h4 : Cond.initialized C ∈ qW) : GoodIn (qws y b n ret) (wsV own idx C y2 (qws y2 b2 n2 ret2)) := fun w hw => by
  have hm : w ∈ qW := by
    simp only [wsV, List.mem_append, List.mem_cons, List.not_mem_nil, or_false] at hw
    rcases hw with (rfl | rfl | rfl | rfl) | rfl | hw
    · exact h1
    · exact h2
    · exact h3
    · exact h4
    · exact h
    · exact hw
  exact ⟨List.mem_cons_of_mem _ hm, good_of_word (qW_good hm)⟩
theorem q_gS {y y2 : MethodName} {b b2 : ByteArray} {n n2 : Nat} {ret ret2 : Option FieldType} {own : String} {idx : Nat} (h : Cond.code y2 b2 n2 ret2 ∈ qW) (h1 : Cond.methodLink own idx y2 ∈ qW) (h2 : Cond.static y2 ∈ qW) (h4 : Cond.initialized y2.cls ∈ qW) : GoodIn (qws y b n ret) (va_wsS own idx y2 (qws y2 b2 n2 ret2)) := fun w hw => by
  have hm : w ∈ qW := by
    simp only [va_wsS, List.mem_append, List.mem_cons, List.not_mem_nil, or_false] at hw
    rcases hw with (rfl | rfl | rfl) | rfl | hw
    · exact h1
    · exact h2
    · exact h4
    · exact h
    · exact hw
  exact ⟨List.mem_cons_of_mem _ hm, good_of_word (qW_good hm)⟩
section QW3
variable {p : Program} {l : Launch} {e : Env} {R : Room} {s : State} {m : MethodId} {args : Array Value} {below : List Frame} {meth : Method} {c : Code} {H : Heap} {locs : List Loc} {cells slots : Nat} {Q : State → Prop}
variable {cc : ByteArray} {pc : Nat} {ls : Array Slot} {rest st0 : List Value} {D : va_G} {kz : Nat → Nat} {b0 a : Nat} {X : qH} {H0 : Heap} {own : String} {T : u_T} {N ci index : Nat} {C : String} {Ts : List Cond} {ρ : Type} {res : ρ}
theorem q_pI (hx : p.tables.exec = Jvm.exec) (hb : c.code = cc) (hts : ∀ w ∈ Ts, w.before args s = true) (hown : s.vm.findClass own = some m.cls) (hK : qV D kz s) (hR : qR D kz b0 X H) (hS0 : va_S (qA b0) H0 H locs) (hz : b0 ≤ H.size) (hin : ∀ w ∈ u_ws C T N, w ∈ Ts) (hc : vwCl[ci]? = some (C, T, N)) {ty0 : Nat → FieldType} (hty : ∀ k, k < N → parseFieldDescriptor (T k).2.2.1 = some (ty0 k)) (hnm : ∀ a, a < N → ∀ b, b < N → a ≠ b → (T a).2.1 ≠ (T b).2.1) (k : Nat) (hk : k < N) (hlink : (Cond.fieldLink own index (T k).1 (T k).2.1 (T k).2.2.1).before args s = true) (hfin : (T k).2.2.2 = false) {v : Int32} (ht0 : ty0 k = .int) {K : qH → Option ρ} (hf : (qpI X ci a k v).bind K = some res) (hdg : decode cc pc = .ok (.putfield index, 3))
    (kk : ∀ (X : qH), K X = some res → ∀ (H : Heap) (locs : List Loc), qR D kz b0 X H → va_S (qA b0) H0 H locs → b0 ≤ H.size → W p l e R s m args below meth c H locs cells slots Q (F0 m (pc + 3) ls rest)) : W p l e R s m args below meth c H locs cells slots Q (F0 m pc ls (.int v :: .ref a :: rest)) := by
  obtain ⟨X2, hv, hf⟩ := q_b hf
  exact q_put0 hx hb hts hown hK hR hS0 hz hin hc ty0 hty hnm k hk hlink hfin (by rw [ht0]; rfl) (by rw [ht0]; rfl) hv hdg (kk X2 hf)
theorem q_pZ (hx : p.tables.exec = Jvm.exec) (hb : c.code = cc) (hts : ∀ w ∈ Ts, w.before args s = true) (hown : s.vm.findClass own = some m.cls) (hK : qV D kz s) (hR : qR D kz b0 X H) (hS0 : va_S (qA b0) H0 H locs) (hz : b0 ≤ H.size) (hin : ∀ w ∈ u_ws C T N, w ∈ Ts) (hc : vwCl[ci]? = some (C, T, N)) {ty0 : Nat → FieldType} (hty : ∀ k, k < N → parseFieldDescriptor (T k).2.2.1 = some (ty0 k)) (hnm : ∀ a, a < N → ∀ b, b < N → a ≠ b → (T a).2.1 ≠ (T b).2.1) (k : Nat) (hk : k < N) (hlink : (Cond.fieldLink own index (T k).1 (T k).2.1 (T k).2.2.1).before args s = true) (hfin : (T k).2.2.2 = false) {v : Int32} (ht0 : ty0 k = .boolean) {K : qH → Option ρ} (hf : (qpZ X ci a k v).bind K = some res) (hdg : decode cc pc = .ok (.putfield index, 3))
    (kk : ∀ (X : qH), K X = some res → ∀ (H : Heap) (locs : List Loc), qR D kz b0 X H → va_S (qA b0) H0 H locs → b0 ≤ H.size → W p l e R s m args below meth c H locs cells slots Q (F0 m (pc + 3) ls rest)) : W p l e R s m args below meth c H locs cells slots Q (F0 m pc ls (.int v :: .ref a :: rest)) := by
  obtain ⟨X2, hv, hf⟩ := q_b hf
  obtain ⟨h01, hv⟩ := qpZ_spec hv
  exact q_put0 hx hb hts hown hK hR hS0 hz hin hc ty0 hty hnm k hk hlink hfin (by rw [ht0]; exact q_nar h01) (by rw [ht0]; exact q_fit h01) hv hdg (kk X2 hf)
theorem q_pR (hx : p.tables.exec = Jvm.exec) (hb : c.code = cc) (hts : ∀ w ∈ Ts, w.before args s = true) (hown : s.vm.findClass own = some m.cls) (hK : qV D kz s) (hR : qR D kz b0 X H) (hS0 : va_S (qA b0) H0 H locs) (hz : b0 ≤ H.size) (hin : ∀ w ∈ u_ws C T N, w ∈ Ts) (hc : vwCl[ci]? = some (C, T, N)) {ty0 : Nat → FieldType} (hty : ∀ k, k < N → parseFieldDescriptor (T k).2.2.1 = some (ty0 k)) (hnm : ∀ a, a < N → ∀ b, b < N → a ≠ b → (T a).2.1 ≠ (T b).2.1) (k : Nat) (hk : k < N) (hlink : (Cond.fieldLink own index (T k).1 (T k).2.1 (T k).2.2.1).before args s = true) (hfin : (T k).2.2.2 = false) {v : Nat} (hn : narrow (ty0 k) (.ref v) = .ref v) (hfit : fits (ty0 k) (.ref v) = true) {K : qH → Option ρ} (hf : (qpR X ci a k v).bind K = some res) (hdg : decode cc pc = .ok (.putfield index, 3))
    (kk : ∀ (X : qH), K X = some res → ∀ (H : Heap) (locs : List Loc), qR D kz b0 X H → va_S (qA b0) H0 H locs → b0 ≤ H.size → W p l e R s m args below meth c H locs cells slots Q (F0 m (pc + 3) ls rest)) : W p l e R s m args below meth c H locs cells slots Q (F0 m pc ls (.ref v :: .ref a :: rest)) := by
  obtain ⟨X2, hv, hf⟩ := q_b hf
  exact q_put0 hx hb hts hown hK hR hS0 hz hin hc ty0 hty hnm k hk hlink hfin hn hfit hv hdg (kk X2 hf)
end QW3
/-- the head of every method -/
theorem q_start {l : Launch} {y : MethodName} {cc : ByteArray} {maxL mc ms : Nat} {ret : Option FieldType} {rm : Room} {av : List Value} {D : va_G} {kz : Nat → Nat} {b0 : Nat} {X : qH} {Qc : Array Value → State → Outcome → State → Prop} (hy : plainName y.cls = true) (hlen : (lg_sl av).length ≤ maxL)
    (body : ∀ (p : Program) (e : Env) (s : State) (m : MethodId) (args : Array Value) (below : List Frame) (meth : Method) (c : Code), p.tables.exec = Jvm.exec → c.code = cc → meth.sig.returnType = ret → meth.locks = false → meth.name = y.name → c.maxLocals = maxL → s.vm.findClass y.cls = some m.cls → (∀ w ∈ qW, w.before args s = true) → qR D kz b0 X s.heap → qV D kz s → b0 ≤ s.heap.size → ∀ ls : Array Slot, lv_has ls maxL (lv_args 0 av) → W p l e rm s m args below meth c s.heap [] 0 0 (MQ below Qc args s mc ms (qA b0)) (F0 m 0 ls [])) :
    Met l y (qws y cc maxL ret) rm (va_Pc av (qU D kz b0 X)) Qc mc ms (qA b0) := by
  refine Met.ofW (cc := cc) (maxL := maxL) (ret := ret) hy rfl ?_
  intro p e s m args below meth c s₁ B hml hv
  obtain ⟨rfl, hR, hK, hz⟩ := hv
  have hts := atoms_spec (ws := qws y cc maxL ret) B.pre
  have hl := lv_entry av hlen
  have h := body p e s m av.toArray below meth c B.exec B.bytes B.returns B.notSynchronized (name_of_methodNamed B.named B.method).1 hml (findClass_of_methodNamed B.named) (fun w hw => hts w (List.mem_cons_of_mem _ hw)) hR hK hz _ hl
  rw [lg_entry_eq]
  exact h
theorem q_lt {α β : Type} {v t : α} {K : α → Option β} {r : β} (e : v = t) (h : qlt t K = some r) : K v = some r := by rw [e]; exact h
def qlab {τ ρ : Type} (k : τ) (b : τ → Option ρ) : Option ρ := b k
theorem q_lab {τ ρ : Type} {k : τ} {b : τ → Option ρ} {r : ρ} (h : qlab k b = some r) : ∃ J, J = k ∧ b J = some r := ⟨k, rfl, h⟩
def qb0 {γ : Type} (x : Option Unit) (k : Option γ) : Option γ := x.bind fun _ => k
def qb2 {α β γ : Type} (x : Option (α × β)) (k : α → β → Option γ) : Option γ := x.bind fun p => k p.1 p.2
def qb3 {α β δ γ : Type} (x : Option (α × β × δ)) (k : α → β → δ → Option γ) : Option γ := x.bind fun p => k p.1 p.2.1 p.2.2
def qb4 {α β δ ε γ : Type} (x : Option (α × β × δ × ε)) (k : α → β → δ → ε → Option γ) : Option γ := x.bind fun p => k p.1 p.2.1 p.2.2.1 p.2.2.2
theorem q_b0 {γ : Type} {x : Option Unit} {k : Option γ} {r : γ} (h : qb0 x k = some r) : x = some () ∧ k = some r := by
  obtain ⟨v, h1, h2⟩ := Option.bind_eq_some_iff.mp h
  exact ⟨h1, h2⟩
theorem q_b2 {α β γ : Type} {x : Option (α × β)} {k : α → β → Option γ} {r : γ} (h : qb2 x k = some r) : ∃ a b, x = some (a, b) ∧ k a b = some r := by
  obtain ⟨⟨a, b⟩, h1, h2⟩ := Option.bind_eq_some_iff.mp h
  exact ⟨a, b, h1, h2⟩
theorem q_b3 {α β δ γ : Type} {x : Option (α × β × δ)} {k : α → β → δ → Option γ} {r : γ} (h : qb3 x k = some r) : ∃ a b d, x = some (a, b, d) ∧ k a b d = some r := by
  obtain ⟨⟨a, b, d⟩, h1, h2⟩ := Option.bind_eq_some_iff.mp h
  exact ⟨a, b, d, h1, h2⟩
theorem q_b4 {α β δ ε γ : Type} {x : Option (α × β × δ × ε)} {k : α → β → δ → ε → Option γ} {r : γ} (h : qb4 x k = some r) : ∃ a b d e, x = some (a, b, d, e) ∧ k a b d e = some r := by
  obtain ⟨⟨a, b, d, e⟩, h1, h2⟩ := Option.bind_eq_some_iff.mp h
  exact ⟨a, b, d, e, h1, h2⟩
/-- an end of a loop that may be the method's end, with 0 to 4 values -/
def qsm0 {ρ γ : Type} (o : ρ ⊕ Unit) (k1 : ρ → γ) (k2 : γ) : γ := match o with | .inl z => k1 z | .inr _ => k2
def qsm1 {ρ α γ : Type} (o : ρ ⊕ α) (k1 : ρ → γ) (k2 : α → γ) : γ := match o with | .inl z => k1 z | .inr a => k2 a
def qsm2 {ρ α β γ : Type} (o : ρ ⊕ (α × β)) (k1 : ρ → γ) (k2 : α → β → γ) : γ := match o with | .inl z => k1 z | .inr a => k2 a.1 a.2
def qsm3 {ρ α β δ γ : Type} (o : ρ ⊕ (α × β × δ)) (k1 : ρ → γ) (k2 : α → β → δ → γ) : γ := match o with | .inl z => k1 z | .inr a => k2 a.1 a.2.1 a.2.2
end
