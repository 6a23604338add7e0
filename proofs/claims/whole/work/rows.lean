section
-- ===== PART A: goes FIRST, ahead of the names: the tables' words, and 'selects' of the private methods out of them =====
/-- a private method of a class that the tables say can be made, by its rows of tables_1 -/
def lw_okq (q : MethodName × Nat) : Prop := (q.1.cls ≠ "java/lang/invoke/MethodHandle" ∧ q.1.cls ≠ "java/lang/invoke/VarHandle") ∧ Cond.instantiable q.1.cls q.2 ∈ tables_1 ∧ Cond.privateMethod q.1 ∈ tables_1 ∧ Cond.instanceMethod q.1 ∈ tables_1
theorem lw_p0 : lw_okq (⟨"FireworkDeeds$Reader", "skipBlanks", "()V"⟩, 8) := ⟨⟨by decide +kernel, by decide +kernel⟩, List.mem_of_getElem? (i := 88) (by decide +kernel), List.mem_of_getElem? (i := 320) (by decide +kernel), List.mem_of_getElem? (i := 321) (by decide +kernel)⟩
theorem lw_p1 : lw_okq (⟨"FireworkDeeds$Reader", "readClause", "(LFireworkDeeds$Bay;)V"⟩, 8) := ⟨⟨by decide +kernel, by decide +kernel⟩, List.mem_of_getElem? (i := 88) (by decide +kernel), List.mem_of_getElem? (i := 324) (by decide +kernel), List.mem_of_getElem? (i := 325) (by decide +kernel)⟩
theorem lw_p2 : lw_okq (⟨"FireworkDeeds$Reader", "fail", "(II)V"⟩, 8) := ⟨⟨by decide +kernel, by decide +kernel⟩, List.mem_of_getElem? (i := 88) (by decide +kernel), List.mem_of_getElem? (i := 328) (by decide +kernel), List.mem_of_getElem? (i := 329) (by decide +kernel)⟩
theorem lw_p3 : lw_okq (⟨"FireworkDeeds$Reader", "readCells", "(LFireworkDeeds$Bay;)V"⟩, 8) := ⟨⟨by decide +kernel, by decide +kernel⟩, List.mem_of_getElem? (i := 88) (by decide +kernel), List.mem_of_getElem? (i := 332) (by decide +kernel), List.mem_of_getElem? (i := 333) (by decide +kernel)⟩
theorem lw_p4 : lw_okq (⟨"FireworkDeeds$Reader", "passWord", "(Z)V"⟩, 8) := ⟨⟨by decide +kernel, by decide +kernel⟩, List.mem_of_getElem? (i := 88) (by decide +kernel), List.mem_of_getElem? (i := 336) (by decide +kernel), List.mem_of_getElem? (i := 337) (by decide +kernel)⟩
theorem lw_p5 : lw_okq (⟨"FireworkDeeds$Reader", "readNumber", "(II)I"⟩, 8) := ⟨⟨by decide +kernel, by decide +kernel⟩, List.mem_of_getElem? (i := 88) (by decide +kernel), List.mem_of_getElem? (i := 340) (by decide +kernel), List.mem_of_getElem? (i := 341) (by decide +kernel)⟩
theorem lw_p6 : lw_okq (⟨"FireworkDeeds$Reader", "passEnd", "()V"⟩, 8) := ⟨⟨by decide +kernel, by decide +kernel⟩, List.mem_of_getElem? (i := 88) (by decide +kernel), List.mem_of_getElem? (i := 344) (by decide +kernel), List.mem_of_getElem? (i := 345) (by decide +kernel)⟩
theorem lw_p7 : lw_okq (⟨"FireworkDeeds$Reader", "readHouse", "(LFireworkDeeds$Bay;)V"⟩, 8) := ⟨⟨by decide +kernel, by decide +kernel⟩, List.mem_of_getElem? (i := 88) (by decide +kernel), List.mem_of_getElem? (i := 348) (by decide +kernel), List.mem_of_getElem? (i := 349) (by decide +kernel)⟩
theorem lw_p8 : lw_okq (⟨"FireworkDeeds$Reader", "readStars", "(LFireworkDeeds$Bay;)I"⟩, 8) := ⟨⟨by decide +kernel, by decide +kernel⟩, List.mem_of_getElem? (i := 88) (by decide +kernel), List.mem_of_getElem? (i := 356) (by decide +kernel), List.mem_of_getElem? (i := 357) (by decide +kernel)⟩
theorem lw_p9 : lw_okq (⟨"FireworkDeeds$Reader", "readSmoke", "(LFireworkDeeds$Bay;)V"⟩, 8) := ⟨⟨by decide +kernel, by decide +kernel⟩, List.mem_of_getElem? (i := 88) (by decide +kernel), List.mem_of_getElem? (i := 368) (by decide +kernel), List.mem_of_getElem? (i := 369) (by decide +kernel)⟩
theorem lw_p10 : lw_okq (⟨"FireworkDeeds$Reader", "readDamp", "(LFireworkDeeds$Bay;)V"⟩, 8) := ⟨⟨by decide +kernel, by decide +kernel⟩, List.mem_of_getElem? (i := 88) (by decide +kernel), List.mem_of_getElem? (i := 372) (by decide +kernel), List.mem_of_getElem? (i := 373) (by decide +kernel)⟩
theorem lw_p11 : lw_okq (⟨"FireworkDeeds$Night", "meet", "(LFireworkDeeds$Bay;II)V"⟩, 8) := ⟨⟨by decide +kernel, by decide +kernel⟩, List.mem_of_getElem? (i := 120) (by decide +kernel), List.mem_of_getElem? (i := 498) (by decide +kernel), List.mem_of_getElem? (i := 499) (by decide +kernel)⟩
theorem lw_p12 : lw_okq (⟨"FireworkDeeds", "refusalOfMinutes", "(I)I"⟩, 16) := ⟨⟨by decide +kernel, by decide +kernel⟩, List.mem_of_getElem? (i := 15) (by decide +kernel), List.mem_of_getElem? (i := 507) (by decide +kernel), List.mem_of_getElem? (i := 508) (by decide +kernel)⟩
theorem lw_p13 : lw_okq (⟨"FireworkDeeds", "changeWeather", "()V"⟩, 16) := ⟨⟨by decide +kernel, by decide +kernel⟩, List.mem_of_getElem? (i := 15) (by decide +kernel), List.mem_of_getElem? (i := 524) (by decide +kernel), List.mem_of_getElem? (i := 525) (by decide +kernel)⟩
theorem lw_p14 : lw_okq (⟨"FireworkDeeds", "draw", "(I)I"⟩, 16) := ⟨⟨by decide +kernel, by decide +kernel⟩, List.mem_of_getElem? (i := 15) (by decide +kernel), List.mem_of_getElem? (i := 528) (by decide +kernel), List.mem_of_getElem? (i := 529) (by decide +kernel)⟩
theorem lw_p15 : lw_okq (⟨"FireworkDeeds$Row", "extend", "(LFireworkDeeds$Bay;LFireworkDeeds$Night;II)Z"⟩, 2) := ⟨⟨by decide +kernel, by decide +kernel⟩, List.mem_of_getElem? (i := 184) (by decide +kernel), List.mem_of_getElem? (i := 559) (by decide +kernel), List.mem_of_getElem? (i := 560) (by decide +kernel)⟩
def lw_privs_1 : List (MethodName × Nat) := [(⟨"FireworkDeeds$Reader", "skipBlanks", "()V"⟩, 8), (⟨"FireworkDeeds$Reader", "readClause", "(LFireworkDeeds$Bay;)V"⟩, 8), (⟨"FireworkDeeds$Reader", "fail", "(II)V"⟩, 8), (⟨"FireworkDeeds$Reader", "readCells", "(LFireworkDeeds$Bay;)V"⟩, 8), (⟨"FireworkDeeds$Reader", "passWord", "(Z)V"⟩, 8), (⟨"FireworkDeeds$Reader", "readNumber", "(II)I"⟩, 8), (⟨"FireworkDeeds$Reader", "passEnd", "()V"⟩, 8), (⟨"FireworkDeeds$Reader", "readHouse", "(LFireworkDeeds$Bay;)V"⟩, 8), (⟨"FireworkDeeds$Reader", "readStars", "(LFireworkDeeds$Bay;)I"⟩, 8), (⟨"FireworkDeeds$Reader", "readSmoke", "(LFireworkDeeds$Bay;)V"⟩, 8), (⟨"FireworkDeeds$Reader", "readDamp", "(LFireworkDeeds$Bay;)V"⟩, 8), (⟨"FireworkDeeds$Night", "meet", "(LFireworkDeeds$Bay;II)V"⟩, 8), (⟨"FireworkDeeds", "refusalOfMinutes", "(I)I"⟩, 16), (⟨"FireworkDeeds", "changeWeather", "()V"⟩, 16), (⟨"FireworkDeeds", "draw", "(I)I"⟩, 16), (⟨"FireworkDeeds$Row", "extend", "(LFireworkDeeds$Bay;LFireworkDeeds$Night;II)Z"⟩, 2)]
theorem lw_r1 : ∀ q ∈ lw_privs_1, lw_okq q := List.forall_mem_cons.mpr ⟨lw_p0, List.forall_mem_cons.mpr ⟨lw_p1, List.forall_mem_cons.mpr ⟨lw_p2, List.forall_mem_cons.mpr ⟨lw_p3, List.forall_mem_cons.mpr ⟨lw_p4, List.forall_mem_cons.mpr ⟨lw_p5, List.forall_mem_cons.mpr ⟨lw_p6, List.forall_mem_cons.mpr ⟨lw_p7, List.forall_mem_cons.mpr ⟨lw_p8, List.forall_mem_cons.mpr ⟨lw_p9, List.forall_mem_cons.mpr ⟨lw_p10, List.forall_mem_cons.mpr ⟨lw_p11, List.forall_mem_cons.mpr ⟨lw_p12, List.forall_mem_cons.mpr ⟨lw_p13, List.forall_mem_cons.mpr ⟨lw_p14, List.forall_mem_cons.mpr ⟨lw_p15, fun _ h => absurd h List.not_mem_nil⟩⟩⟩⟩⟩⟩⟩⟩⟩⟩⟩⟩⟩⟩⟩⟩
theorem lw_p16 : lw_okq (⟨"FireworkDeeds$Row", "fits", "(LFireworkDeeds$Bay;II)Z"⟩, 2) := ⟨⟨by decide +kernel, by decide +kernel⟩, List.mem_of_getElem? (i := 184) (by decide +kernel), List.mem_of_getElem? (i := 563) (by decide +kernel), List.mem_of_getElem? (i := 564) (by decide +kernel)⟩
theorem lw_p17 : lw_okq (⟨"FireworkDeeds$Offers", "askAll", "(LFireworkDeeds$Bay;LFireworkDeeds$Night;)Z"⟩, 2) := ⟨⟨by decide +kernel, by decide +kernel⟩, List.mem_of_getElem? (i := 201) (by decide +kernel), List.mem_of_getElem? (i := 633) (by decide +kernel), List.mem_of_getElem? (i := 634) (by decide +kernel)⟩
theorem lw_p18 : lw_okq (⟨"FireworkDeeds$Offers", "nearestToAsk", "(LFireworkDeeds$Bay;LFireworkDeeds$Night;I)I"⟩, 2) := ⟨⟨by decide +kernel, by decide +kernel⟩, List.mem_of_getElem? (i := 201) (by decide +kernel), List.mem_of_getElem? (i := 637) (by decide +kernel), List.mem_of_getElem? (i := 638) (by decide +kernel)⟩
theorem lw_p19 : lw_okq (⟨"FireworkDeeds$Offers", "ask", "(LFireworkDeeds$Bay;II)V"⟩, 2) := ⟨⟨by decide +kernel, by decide +kernel⟩, List.mem_of_getElem? (i := 201) (by decide +kernel), List.mem_of_getElem? (i := 642) (by decide +kernel), List.mem_of_getElem? (i := 643) (by decide +kernel)⟩
theorem lw_p20 : lw_okq (⟨"FireworkDeeds$Offers", "pair", "(II)V"⟩, 2) := ⟨⟨by decide +kernel, by decide +kernel⟩, List.mem_of_getElem? (i := 201) (by decide +kernel), List.mem_of_getElem? (i := 646) (by decide +kernel), List.mem_of_getElem? (i := 647) (by decide +kernel)⟩
theorem lw_p21 : lw_okq (⟨"FireworkDeeds$Ducks", "alikeAhead", "(I)I"⟩, 3) := ⟨⟨by decide +kernel, by decide +kernel⟩, List.mem_of_getElem? (i := 215) (by decide +kernel), List.mem_of_getElem? (i := 674) (by decide +kernel), List.mem_of_getElem? (i := 675) (by decide +kernel)⟩
theorem lw_p22 : lw_okq (⟨"FireworkDeedsModel", "here", "()I"⟩, 42) := ⟨⟨by decide +kernel, by decide +kernel⟩, List.mem_of_getElem? (i := 714) (by decide +kernel), List.mem_of_getElem? (i := 861) (by decide +kernel), List.mem_of_getElem? (i := 862) (by decide +kernel)⟩
theorem lw_p23 : lw_okq (⟨"FireworkDeedsModel", "takeClause", "()I"⟩, 42) := ⟨⟨by decide +kernel, by decide +kernel⟩, List.mem_of_getElem? (i := 714) (by decide +kernel), List.mem_of_getElem? (i := 865) (by decide +kernel), List.mem_of_getElem? (i := 866) (by decide +kernel)⟩
theorem lw_p24 : lw_okq (⟨"FireworkDeedsModel", "fails", "(II)I"⟩, 42) := ⟨⟨by decide +kernel, by decide +kernel⟩, List.mem_of_getElem? (i := 714) (by decide +kernel), List.mem_of_getElem? (i := 869) (by decide +kernel), List.mem_of_getElem? (i := 870) (by decide +kernel)⟩
theorem lw_p25 : lw_okq (⟨"FireworkDeedsModel", "takeBay", "()I"⟩, 42) := ⟨⟨by decide +kernel, by decide +kernel⟩, List.mem_of_getElem? (i := 714) (by decide +kernel), List.mem_of_getElem? (i := 873) (by decide +kernel), List.mem_of_getElem? (i := 874) (by decide +kernel)⟩
theorem lw_p26 : lw_okq (⟨"FireworkDeedsModel", "into", "([IIII)I"⟩, 42) := ⟨⟨by decide +kernel, by decide +kernel⟩, List.mem_of_getElem? (i := 714) (by decide +kernel), List.mem_of_getElem? (i := 877) (by decide +kernel), List.mem_of_getElem? (i := 878) (by decide +kernel)⟩
theorem lw_p27 : lw_okq (⟨"FireworkDeedsModel", "takeNumber", "(II)I"⟩, 42) := ⟨⟨by decide +kernel, by decide +kernel⟩, List.mem_of_getElem? (i := 714) (by decide +kernel), List.mem_of_getElem? (i := 881) (by decide +kernel), List.mem_of_getElem? (i := 882) (by decide +kernel)⟩
theorem lw_p28 : lw_okq (⟨"FireworkDeedsModel", "takeHouse", "()I"⟩, 42) := ⟨⟨by decide +kernel, by decide +kernel⟩, List.mem_of_getElem? (i := 714) (by decide +kernel), List.mem_of_getElem? (i := 887) (by decide +kernel), List.mem_of_getElem? (i := 888) (by decide +kernel)⟩
theorem lw_p29 : lw_okq (⟨"FireworkDeedsModel", "takeCell", "(I)I"⟩, 42) := ⟨⟨by decide +kernel, by decide +kernel⟩, List.mem_of_getElem? (i := 714) (by decide +kernel), List.mem_of_getElem? (i := 891) (by decide +kernel), List.mem_of_getElem? (i := 892) (by decide +kernel)⟩
theorem lw_p30 : lw_okq (⟨"FireworkDeedsModel", "takeStars", "(I)I"⟩, 42) := ⟨⟨by decide +kernel, by decide +kernel⟩, List.mem_of_getElem? (i := 714) (by decide +kernel), List.mem_of_getElem? (i := 895) (by decide +kernel), List.mem_of_getElem? (i := 896) (by decide +kernel)⟩
theorem lw_p31 : lw_okq (⟨"FireworkDeedsModel", "isStar", "(I)Z"⟩, 42) := ⟨⟨by decide +kernel, by decide +kernel⟩, List.mem_of_getElem? (i := 714) (by decide +kernel), List.mem_of_getElem? (i := 901) (by decide +kernel), List.mem_of_getElem? (i := 902) (by decide +kernel)⟩
def lw_privs_2 : List (MethodName × Nat) := [(⟨"FireworkDeeds$Row", "fits", "(LFireworkDeeds$Bay;II)Z"⟩, 2), (⟨"FireworkDeeds$Offers", "askAll", "(LFireworkDeeds$Bay;LFireworkDeeds$Night;)Z"⟩, 2), (⟨"FireworkDeeds$Offers", "nearestToAsk", "(LFireworkDeeds$Bay;LFireworkDeeds$Night;I)I"⟩, 2), (⟨"FireworkDeeds$Offers", "ask", "(LFireworkDeeds$Bay;II)V"⟩, 2), (⟨"FireworkDeeds$Offers", "pair", "(II)V"⟩, 2), (⟨"FireworkDeeds$Ducks", "alikeAhead", "(I)I"⟩, 3), (⟨"FireworkDeedsModel", "here", "()I"⟩, 42), (⟨"FireworkDeedsModel", "takeClause", "()I"⟩, 42), (⟨"FireworkDeedsModel", "fails", "(II)I"⟩, 42), (⟨"FireworkDeedsModel", "takeBay", "()I"⟩, 42), (⟨"FireworkDeedsModel", "into", "([IIII)I"⟩, 42), (⟨"FireworkDeedsModel", "takeNumber", "(II)I"⟩, 42), (⟨"FireworkDeedsModel", "takeHouse", "()I"⟩, 42), (⟨"FireworkDeedsModel", "takeCell", "(I)I"⟩, 42), (⟨"FireworkDeedsModel", "takeStars", "(I)I"⟩, 42), (⟨"FireworkDeedsModel", "isStar", "(I)Z"⟩, 42)]
theorem lw_r2 : ∀ q ∈ lw_privs_2, lw_okq q := List.forall_mem_cons.mpr ⟨lw_p16, List.forall_mem_cons.mpr ⟨lw_p17, List.forall_mem_cons.mpr ⟨lw_p18, List.forall_mem_cons.mpr ⟨lw_p19, List.forall_mem_cons.mpr ⟨lw_p20, List.forall_mem_cons.mpr ⟨lw_p21, List.forall_mem_cons.mpr ⟨lw_p22, List.forall_mem_cons.mpr ⟨lw_p23, List.forall_mem_cons.mpr ⟨lw_p24, List.forall_mem_cons.mpr ⟨lw_p25, List.forall_mem_cons.mpr ⟨lw_p26, List.forall_mem_cons.mpr ⟨lw_p27, List.forall_mem_cons.mpr ⟨lw_p28, List.forall_mem_cons.mpr ⟨lw_p29, List.forall_mem_cons.mpr ⟨lw_p30, List.forall_mem_cons.mpr ⟨lw_p31, fun _ h => absurd h List.not_mem_nil⟩⟩⟩⟩⟩⟩⟩⟩⟩⟩⟩⟩⟩⟩⟩⟩
theorem lw_p32 : lw_okq (⟨"FireworkDeedsModel", "areLike", "(II)Z"⟩, 42) := ⟨⟨by decide +kernel, by decide +kernel⟩, List.mem_of_getElem? (i := 714) (by decide +kernel), List.mem_of_getElem? (i := 905) (by decide +kernel), List.mem_of_getElem? (i := 906) (by decide +kernel)⟩
theorem lw_p33 : lw_okq (⟨"FireworkDeedsModel", "takeRead", "()V"⟩, 42) := ⟨⟨by decide +kernel, by decide +kernel⟩, List.mem_of_getElem? (i := 714) (by decide +kernel), List.mem_of_getElem? (i := 909) (by decide +kernel), List.mem_of_getElem? (i := 910) (by decide +kernel)⟩
theorem lw_p34 : lw_okq (⟨"FireworkDeedsModel", "contracts", "(Z)I"⟩, 42) := ⟨⟨by decide +kernel, by decide +kernel⟩, List.mem_of_getElem? (i := 714) (by decide +kernel), List.mem_of_getElem? (i := 921) (by decide +kernel), List.mem_of_getElem? (i := 922) (by decide +kernel)⟩
theorem lw_p35 : lw_okq (⟨"FireworkDeedsModel", "isGreen", "(I)Z"⟩, 42) := ⟨⟨by decide +kernel, by decide +kernel⟩, List.mem_of_getElem? (i := 714) (by decide +kernel), List.mem_of_getElem? (i := 928) (by decide +kernel), List.mem_of_getElem? (i := 929) (by decide +kernel)⟩
theorem lw_p36 : lw_okq (⟨"FireworkDeedsModel", "isHouse", "(I)Z"⟩, 42) := ⟨⟨by decide +kernel, by decide +kernel⟩, List.mem_of_getElem? (i := 714) (by decide +kernel), List.mem_of_getElem? (i := 936) (by decide +kernel), List.mem_of_getElem? (i := 937) (by decide +kernel)⟩
theorem lw_p37 : lw_okq (⟨"FireworkDeedsModel", "starNumber", "(I)I"⟩, 42) := ⟨⟨by decide +kernel, by decide +kernel⟩, List.mem_of_getElem? (i := 714) (by decide +kernel), List.mem_of_getElem? (i := 941) (by decide +kernel), List.mem_of_getElem? (i := 942) (by decide +kernel)⟩
theorem lw_p38 : lw_okq (⟨"FireworkDeedsModel", "readAs", "(I)I"⟩, 42) := ⟨⟨by decide +kernel, by decide +kernel⟩, List.mem_of_getElem? (i := 714) (by decide +kernel), List.mem_of_getElem? (i := 945) (by decide +kernel), List.mem_of_getElem? (i := 946) (by decide +kernel)⟩
theorem lw_p39 : lw_okq (⟨"FireworkDeedsModel", "areTwo", "(II)Z"⟩, 42) := ⟨⟨by decide +kernel, by decide +kernel⟩, List.mem_of_getElem? (i := 714) (by decide +kernel), List.mem_of_getElem? (i := 953) (by decide +kernel), List.mem_of_getElem? (i := 954) (by decide +kernel)⟩
theorem lw_p40 : lw_okq (⟨"FireworkDeedsModel", "seers", "(I)I"⟩, 42) := ⟨⟨by decide +kernel, by decide +kernel⟩, List.mem_of_getElem? (i := 714) (by decide +kernel), List.mem_of_getElem? (i := 957) (by decide +kernel), List.mem_of_getElem? (i := 958) (by decide +kernel)⟩
theorem lw_p41 : lw_okq (⟨"FireworkDeedsModel", "overOf", "(I)I"⟩, 42) := ⟨⟨by decide +kernel, by decide +kernel⟩, List.mem_of_getElem? (i := 714) (by decide +kernel), List.mem_of_getElem? (i := 961) (by decide +kernel), List.mem_of_getElem? (i := 962) (by decide +kernel)⟩
theorem lw_p42 : lw_okq (⟨"FireworkDeedsModel", "reach", "(I)I"⟩, 42) := ⟨⟨by decide +kernel, by decide +kernel⟩, List.mem_of_getElem? (i := 714) (by decide +kernel), List.mem_of_getElem? (i := 968) (by decide +kernel), List.mem_of_getElem? (i := 969) (by decide +kernel)⟩
theorem lw_p43 : lw_okq (⟨"FireworkDeedsModel", "isHidden", "(II)Z"⟩, 42) := ⟨⟨by decide +kernel, by decide +kernel⟩, List.mem_of_getElem? (i := 714) (by decide +kernel), List.mem_of_getElem? (i := 972) (by decide +kernel), List.mem_of_getElem? (i := 973) (by decide +kernel)⟩
theorem lw_p44 : lw_okq (⟨"FireworkDeedsModel", "remember", "()V"⟩, 42) := ⟨⟨by decide +kernel, by decide +kernel⟩, List.mem_of_getElem? (i := 714) (by decide +kernel), List.mem_of_getElem? (i := 985) (by decide +kernel), List.mem_of_getElem? (i := 986) (by decide +kernel)⟩
theorem lw_p45 : lw_okq (⟨"FireworkDeedsModel", "lightNow", "(I)V"⟩, 42) := ⟨⟨by decide +kernel, by decide +kernel⟩, List.mem_of_getElem? (i := 714) (by decide +kernel), List.mem_of_getElem? (i := 989) (by decide +kernel), List.mem_of_getElem? (i := 990) (by decide +kernel)⟩
theorem lw_p46 : lw_okq (⟨"FireworkDeedsModel", "holds", "(II)Z"⟩, 42) := ⟨⟨by decide +kernel, by decide +kernel⟩, List.mem_of_getElem? (i := 714) (by decide +kernel), List.mem_of_getElem? (i := 993) (by decide +kernel), List.mem_of_getElem? (i := 994) (by decide +kernel)⟩
theorem lw_p47 : lw_okq (⟨"FireworkDeedsModel", "minutesRefused", "(I)I"⟩, 42) := ⟨⟨by decide +kernel, by decide +kernel⟩, List.mem_of_getElem? (i := 714) (by decide +kernel), List.mem_of_getElem? (i := 1001) (by decide +kernel), List.mem_of_getElem? (i := 1002) (by decide +kernel)⟩
def lw_privs_3 : List (MethodName × Nat) := [(⟨"FireworkDeedsModel", "areLike", "(II)Z"⟩, 42), (⟨"FireworkDeedsModel", "takeRead", "()V"⟩, 42), (⟨"FireworkDeedsModel", "contracts", "(Z)I"⟩, 42), (⟨"FireworkDeedsModel", "isGreen", "(I)Z"⟩, 42), (⟨"FireworkDeedsModel", "isHouse", "(I)Z"⟩, 42), (⟨"FireworkDeedsModel", "starNumber", "(I)I"⟩, 42), (⟨"FireworkDeedsModel", "readAs", "(I)I"⟩, 42), (⟨"FireworkDeedsModel", "areTwo", "(II)Z"⟩, 42), (⟨"FireworkDeedsModel", "seers", "(I)I"⟩, 42), (⟨"FireworkDeedsModel", "overOf", "(I)I"⟩, 42), (⟨"FireworkDeedsModel", "reach", "(I)I"⟩, 42), (⟨"FireworkDeedsModel", "isHidden", "(II)Z"⟩, 42), (⟨"FireworkDeedsModel", "remember", "()V"⟩, 42), (⟨"FireworkDeedsModel", "lightNow", "(I)V"⟩, 42), (⟨"FireworkDeedsModel", "holds", "(II)Z"⟩, 42), (⟨"FireworkDeedsModel", "minutesRefused", "(I)I"⟩, 42)]
theorem lw_r3 : ∀ q ∈ lw_privs_3, lw_okq q := List.forall_mem_cons.mpr ⟨lw_p32, List.forall_mem_cons.mpr ⟨lw_p33, List.forall_mem_cons.mpr ⟨lw_p34, List.forall_mem_cons.mpr ⟨lw_p35, List.forall_mem_cons.mpr ⟨lw_p36, List.forall_mem_cons.mpr ⟨lw_p37, List.forall_mem_cons.mpr ⟨lw_p38, List.forall_mem_cons.mpr ⟨lw_p39, List.forall_mem_cons.mpr ⟨lw_p40, List.forall_mem_cons.mpr ⟨lw_p41, List.forall_mem_cons.mpr ⟨lw_p42, List.forall_mem_cons.mpr ⟨lw_p43, List.forall_mem_cons.mpr ⟨lw_p44, List.forall_mem_cons.mpr ⟨lw_p45, List.forall_mem_cons.mpr ⟨lw_p46, List.forall_mem_cons.mpr ⟨lw_p47, fun _ h => absurd h List.not_mem_nil⟩⟩⟩⟩⟩⟩⟩⟩⟩⟩⟩⟩⟩⟩⟩⟩
theorem lw_p48 : lw_okq (⟨"FireworkDeedsModel", "draw", "(I)I"⟩, 42) := ⟨⟨by decide +kernel, by decide +kernel⟩, List.mem_of_getElem? (i := 714) (by decide +kernel), List.mem_of_getElem? (i := 1022) (by decide +kernel), List.mem_of_getElem? (i := 1023) (by decide +kernel)⟩
theorem lw_p49 : lw_okq (⟨"FireworkDeedsModel", "isSet", "(I)Z"⟩, 42) := ⟨⟨by decide +kernel, by decide +kernel⟩, List.mem_of_getElem? (i := 714) (by decide +kernel), List.mem_of_getElem? (i := 1038) (by decide +kernel), List.mem_of_getElem? (i := 1039) (by decide +kernel)⟩
theorem lw_p50 : lw_okq (⟨"FireworkDeedsModel", "isOrder", "(III)Z"⟩, 42) := ⟨⟨by decide +kernel, by decide +kernel⟩, List.mem_of_getElem? (i := 714) (by decide +kernel), List.mem_of_getElem? (i := 1045) (by decide +kernel), List.mem_of_getElem? (i := 1046) (by decide +kernel)⟩
theorem lw_p51 : lw_okq (⟨"FireworkDeedsModel", "isFarOf", "(II)Z"⟩, 42) := ⟨⟨by decide +kernel, by decide +kernel⟩, List.mem_of_getElem? (i := 714) (by decide +kernel), List.mem_of_getElem? (i := 1060) (by decide +kernel), List.mem_of_getElem? (i := 1061) (by decide +kernel)⟩
theorem lw_p52 : lw_okq (⟨"FireworkDeedsModel", "figuresOf", "(I)I"⟩, 42) := ⟨⟨by decide +kernel, by decide +kernel⟩, List.mem_of_getElem? (i := 714) (by decide +kernel), List.mem_of_getElem? (i := 1076) (by decide +kernel), List.mem_of_getElem? (i := 1077) (by decide +kernel)⟩
theorem lw_p53 : lw_okq (⟨"FireworkDeedsModel", "nearest", "(I)I"⟩, 42) := ⟨⟨by decide +kernel, by decide +kernel⟩, List.mem_of_getElem? (i := 714) (by decide +kernel), List.mem_of_getElem? (i := 1090) (by decide +kernel), List.mem_of_getElem? (i := 1091) (by decide +kernel)⟩
theorem lw_p54 : lw_okq (⟨"FireworkDeedsModel", "ask", "(II)V"⟩, 42) := ⟨⟨by decide +kernel, by decide +kernel⟩, List.mem_of_getElem? (i := 714) (by decide +kernel), List.mem_of_getElem? (i := 1094) (by decide +kernel), List.mem_of_getElem? (i := 1095) (by decide +kernel)⟩
theorem lw_p55 : lw_okq (⟨"FireworkDeedsModel", "isKeptOf", "(III)Z"⟩, 42) := ⟨⟨by decide +kernel, by decide +kernel⟩, List.mem_of_getElem? (i := 714) (by decide +kernel), List.mem_of_getElem? (i := 1098) (by decide +kernel), List.mem_of_getElem? (i := 1099) (by decide +kernel)⟩
theorem lw_p56 : lw_okq (⟨"FireworkDeedsModel", "litOver", "(I)I"⟩, 42) := ⟨⟨by decide +kernel, by decide +kernel⟩, List.mem_of_getElem? (i := 714) (by decide +kernel), List.mem_of_getElem? (i := 1111) (by decide +kernel), List.mem_of_getElem? (i := 1112) (by decide +kernel)⟩
def lw_privs_4 : List (MethodName × Nat) := [(⟨"FireworkDeedsModel", "draw", "(I)I"⟩, 42), (⟨"FireworkDeedsModel", "isSet", "(I)Z"⟩, 42), (⟨"FireworkDeedsModel", "isOrder", "(III)Z"⟩, 42), (⟨"FireworkDeedsModel", "isFarOf", "(II)Z"⟩, 42), (⟨"FireworkDeedsModel", "figuresOf", "(I)I"⟩, 42), (⟨"FireworkDeedsModel", "nearest", "(I)I"⟩, 42), (⟨"FireworkDeedsModel", "ask", "(II)V"⟩, 42), (⟨"FireworkDeedsModel", "isKeptOf", "(III)Z"⟩, 42), (⟨"FireworkDeedsModel", "litOver", "(I)I"⟩, 42)]
theorem lw_r4 : ∀ q ∈ lw_privs_4, lw_okq q := List.forall_mem_cons.mpr ⟨lw_p48, List.forall_mem_cons.mpr ⟨lw_p49, List.forall_mem_cons.mpr ⟨lw_p50, List.forall_mem_cons.mpr ⟨lw_p51, List.forall_mem_cons.mpr ⟨lw_p52, List.forall_mem_cons.mpr ⟨lw_p53, List.forall_mem_cons.mpr ⟨lw_p54, List.forall_mem_cons.mpr ⟨lw_p55, List.forall_mem_cons.mpr ⟨lw_p56, fun _ h => absurd h List.not_mem_nil⟩⟩⟩⟩⟩⟩⟩⟩⟩
def lw_privs : List (MethodName × Nat) := lw_privs_1 ++ (lw_privs_2 ++ (lw_privs_3 ++ (lw_privs_4)))
def lw_tbl : List Cond := k2_sels lw_privs ++ tables_1
theorem lw_privs_ok : ∀ q ∈ lw_privs, lw_okq q := by
  show ∀ q ∈ lw_privs_1 ++ (lw_privs_2 ++ (lw_privs_3 ++ (lw_privs_4))), lw_okq q
  exact List.forall_mem_append.mpr ⟨lw_r1, List.forall_mem_append.mpr ⟨lw_r2, List.forall_mem_append.mpr ⟨lw_r3, lw_r4⟩⟩⟩
end
section
/-! ===== BEGIN words of one list among another's, by their places ===== -/
/-! ===== END ===== -/

/-! ===== BEGIN printed: names, fields, word lists, decode rows ===== -/
def RX0 : String := "FireworkDeeds$Bay"
def TX0 : u_T := fun k => match k with
  | 0 => ("FireworkDeeds$Bay", "width", "I", false)
  | 1 => ("FireworkDeeds$Bay", "firstFog", "I", false)
  | 2 => ("FireworkDeeds$Bay", "firstWind", "I", false)
  | 3 => ("FireworkDeeds$Bay", "smoke", "I", false)
  | 4 => ("FireworkDeeds$Bay", "dampPercent", "I", false)
  | 5 => ("FireworkDeeds$Bay", "count", "I", false)
  | 6 => ("FireworkDeeds$Bay", "cell", "[I", true)
  | 7 => ("FireworkDeeds$Bay", "powder", "[I", true)
  | 8 => ("FireworkDeeds$Bay", "firstRockets", "[I", true)
  | _ => ("FireworkDeeds$Bay", "stars", "[I", true)
def tyX0 : Nat → FieldType := fun k => match k with
  | 0 => .int
  | 1 => .int
  | 2 => .int
  | 3 => .int
  | 4 => .int
  | 5 => .int
  | 6 => .array .int
  | 7 => .array .int
  | 8 => .array .int
  | _ => .array .int
abbrev wsX00 : List Cond := u_ws RX0 TX0 10
theorem nmX0 : ∀ a, a < 10 → ∀ b, b < 10 → a ≠ b → (TX0 a).2.1 ≠ (TX0 b).2.1 := by decide +kernel
theorem tyX0_ok : ∀ k, k < 10 → parseFieldDescriptor (TX0 k).2.2.1 = some (tyX0 k) := by decide +kernel
abbrev cX0_init : ByteArray := prog_2_method_1_code
def yX0_init : MethodName := ⟨RX0, "<init>", "()V"⟩
abbrev cX0_empty : ByteArray := prog_2_method_2_code
def yX0_empty : MethodName := ⟨RX0, "empty", "()V"⟩
abbrev cX0_settle : ByteArray := prog_2_method_3_code
def yX0_settle : MethodName := ⟨RX0, "settle", "(IIII)V"⟩
abbrev cX0_has : ByteArray := prog_2_method_4_code
def yX0_has : MethodName := ⟨RX0, "has", "(I)Z"⟩
abbrev cX0_hasTwo : ByteArray := prog_2_method_5_code
def yX0_hasTwo : MethodName := ⟨RX0, "hasTwo", "(II)Z"⟩
abbrev cX0_hasAll : ByteArray := prog_2_method_6_code
def yX0_hasAll : MethodName := ⟨RX0, "hasAll", "(I)Z"⟩
abbrev cX0_apart : ByteArray := prog_2_method_7_code
def yX0_apart : MethodName := ⟨RX0, "apart", "(II)I"⟩
abbrev cX0_houseOn : ByteArray := prog_2_method_8_code
def yX0_houseOn : MethodName := ⟨RX0, "houseOn", "(I)I"⟩
abbrev cX0_houseOfStars : ByteArray := prog_2_method_9_code
def yX0_houseOfStars : MethodName := ⟨RX0, "houseOfStars", "(I)I"⟩
abbrev cX0_anyGreen : ByteArray := prog_2_method_10_code
def yX0_anyGreen : MethodName := ⟨RX0, "anyGreen", "(II)Z"⟩
abbrev cX0_readAs : ByteArray := prog_2_method_11_code
def yX0_readAs : MethodName := ⟨RX0, "readAs", "(I)I"⟩
def RX1 : String := "FireworkDeeds$Book"
def TX1 : u_T := fun k => match k with
  | 0 => ("FireworkDeeds$Book", "count", "I", false)
  | 1 => ("FireworkDeeds$Book", "first", "[I", true)
  | 2 => ("FireworkDeeds$Book", "second", "[I", true)
  | _ => ("FireworkDeeds$Book", "toldToHold", "[Z", true)
def tyX1 : Nat → FieldType := fun k => match k with
  | 0 => .int
  | 1 => .array .int
  | 2 => .array .int
  | _ => .array .boolean
abbrev wsX10 : List Cond := u_ws RX1 TX1 4
theorem nmX1 : ∀ a, a < 4 → ∀ b, b < 4 → a ≠ b → (TX1 a).2.1 ≠ (TX1 b).2.1 := by decide +kernel
theorem tyX1_ok : ∀ k, k < 4 → parseFieldDescriptor (TX1 k).2.2.1 = some (tyX1 k) := by decide +kernel
abbrev cX1_init : ByteArray := prog_3_method_1_code
def yX1_init : MethodName := ⟨RX1, "<init>", "()V"⟩
abbrev cX1_add : ByteArray := prog_3_method_2_code
def yX1_add : MethodName := ⟨RX1, "add", "(IIZ)V"⟩
abbrev cX1_firstWrong : ByteArray := prog_3_method_3_code
def yX1_firstWrong : MethodName := ⟨RX1, "firstWrong", "(LFireworkDeeds$Night;)I"⟩
def RX2 : String := "FireworkDeeds$Ducks"
def TX2 : u_T := fun k => match k with
  | 0 => ("FireworkDeeds$Ducks", "count", "I", false)
  | 1 => ("FireworkDeeds$Ducks", "minute", "[I", true)
  | _ => ("FireworkDeeds$Ducks", "cell", "[I", true)
def tyX2 : Nat → FieldType := fun k => match k with
  | 0 => .int
  | 1 => .array .int
  | _ => .array .int
abbrev wsX20 : List Cond := u_ws RX2 TX2 3
theorem nmX2 : ∀ a, a < 3 → ∀ b, b < 3 → a ≠ b → (TX2 a).2.1 ≠ (TX2 b).2.1 := by decide +kernel
theorem tyX2_ok : ∀ k, k < 3 → parseFieldDescriptor (TX2 k).2.2.1 = some (tyX2 k) := by decide +kernel
abbrev cX2_init : ByteArray := prog_4_method_1_code
def yX2_init : MethodName := ⟨RX2, "<init>", "()V"⟩
abbrev cX2_add : ByteArray := prog_4_method_2_code
def yX2_add : MethodName := ⟨RX2, "add", "(II)V"⟩
abbrev cX2_ways : ByteArray := prog_4_method_3_code
def yX2_ways : MethodName := ⟨RX2, "ways", "(LFireworkDeeds$Bay;LFireworkDeeds$Night;)I"⟩
abbrev cX2_alikeAhead : ByteArray := prog_4_method_4_code
def yX2_alikeAhead : MethodName := ⟨RX2, "alikeAhead", "(I)I"⟩
def RX3 : String := "FireworkDeeds$Night"
def TX3 : u_T := fun k => match k with
  | 0 => ("FireworkDeeds$Night", "minutes", "I", false)
  | 1 => ("FireworkDeeds$Night", "fog", "I", false)
  | 2 => ("FireworkDeeds$Night", "wind", "I", false)
  | 3 => ("FireworkDeeds$Night", "holds", "I", false)
  | 4 => ("FireworkDeeds$Night", "rockets", "[I", true)
  | 5 => ("FireworkDeeds$Night", "signedAt", "[I", true)
  | 6 => ("FireworkDeeds$Night", "signedOver", "[I", true)
  | _ => ("FireworkDeeds$Night", "seenBy", "[I", true)
def tyX3 : Nat → FieldType := fun k => match k with
  | 0 => .int
  | 1 => .int
  | 2 => .int
  | 3 => .int
  | 4 => .array .int
  | 5 => .array .int
  | 6 => .array .int
  | _ => .array .int
abbrev wsX30 : List Cond := u_ws RX3 TX3 8
theorem nmX3 : ∀ a, a < 8 → ∀ b, b < 8 → a ≠ b → (TX3 a).2.1 ≠ (TX3 b).2.1 := by decide +kernel
theorem tyX3_ok : ∀ k, k < 8 → parseFieldDescriptor (TX3 k).2.2.1 = some (tyX3 k) := by decide +kernel
abbrev cX3_init : ByteArray := prog_5_method_1_code
def yX3_init : MethodName := ⟨RX3, "<init>", "()V"⟩
abbrev cX3_begin : ByteArray := prog_5_method_2_code
def yX3_begin : MethodName := ⟨RX3, "begin", "(LFireworkDeeds$Bay;)V"⟩
abbrev cX3_become : ByteArray := prog_5_method_3_code
def yX3_become : MethodName := ⟨RX3, "become", "(LFireworkDeeds$Night;)V"⟩
abbrev cX3_signedAs : ByteArray := prog_5_method_4_code
def yX3_signedAs : MethodName := ⟨RX3, "signedAs", "(ILFireworkDeeds$Night;)V"⟩
abbrev cX3_cellOver : ByteArray := prog_5_method_5_code
def yX3_cellOver : MethodName := ⟨RX3, "cellOver", "(LFireworkDeeds$Bay;I)I"⟩
abbrev cX3_housesOver : ByteArray := prog_5_method_6_code
def yX3_housesOver : MethodName := ⟨RX3, "housesOver", "(LFireworkDeeds$Bay;I)I"⟩
abbrev cX3_reach : ByteArray := prog_5_method_7_code
def yX3_reach : MethodName := ⟨RX3, "reach", "(LFireworkDeeds$Bay;I)I"⟩
abbrev cX3_inReach : ByteArray := prog_5_method_8_code
def yX3_inReach : MethodName := ⟨RX3, "inReach", "(LFireworkDeeds$Bay;I)I"⟩
abbrev cX3_hidden : ByteArray := prog_5_method_9_code
def yX3_hidden : MethodName := ⟨RX3, "hidden", "(LFireworkDeeds$Bay;I)Z"⟩
abbrev cX3_viewers : ByteArray := prog_5_method_10_code
def yX3_viewers : MethodName := ⟨RX3, "viewers", "(LFireworkDeeds$Bay;I)I"⟩
abbrev cX3_sign : ByteArray := prog_5_method_11_code
def yX3_sign : MethodName := ⟨RX3, "sign", "(LFireworkDeeds$Bay;I)V"⟩
abbrev cX3_agree : ByteArray := prog_5_method_12_code
def yX3_agree : MethodName := ⟨RX3, "agree", "(LFireworkDeeds$Bay;I)I"⟩
abbrev cX3_meet : ByteArray := prog_5_method_13_code
def yX3_meet : MethodName := ⟨RX3, "meet", "(LFireworkDeeds$Bay;II)V"⟩
abbrev cX3_holdsFor : ByteArray := prog_5_method_14_code
def yX3_holdsFor : MethodName := ⟨RX3, "holdsFor", "(II)Z"⟩
abbrev cX3_conditionals : ByteArray := prog_5_method_15_code
def yX3_conditionals : MethodName := ⟨RX3, "conditionals", "(LFireworkDeeds$Bay;)I"⟩
abbrev cX3_lackOfPowder : ByteArray := prog_5_method_16_code
def yX3_lackOfPowder : MethodName := ⟨RX3, "lackOfPowder", "(LFireworkDeeds$Bay;II)I"⟩
abbrev cX3_pairBit : ByteArray := prog_5_method_17_code
def yX3_pairBit : MethodName := ⟨RX3, "pairBit", "(II)I"⟩
def RX4 : String := "FireworkDeeds$Offers"
def TX4 : u_T := fun k => match k with
  | 0 => ("FireworkDeeds$Offers", "taken", "[I", true)
  | _ => ("FireworkDeeds$Offers", "refusedBy", "[I", true)
def tyX4 : Nat → FieldType := fun k => match k with
  | 0 => .array .int
  | _ => .array .int
abbrev wsX40 : List Cond := u_ws RX4 TX4 2
theorem nmX4 : ∀ a, a < 2 → ∀ b, b < 2 → a ≠ b → (TX4 a).2.1 ≠ (TX4 b).2.1 := by decide +kernel
theorem tyX4_ok : ∀ k, k < 2 → parseFieldDescriptor (TX4 k).2.2.1 = some (tyX4 k) := by decide +kernel
abbrev cX4_init : ByteArray := prog_6_method_1_code
def yX4_init : MethodName := ⟨RX4, "<init>", "()V"⟩
abbrev cX4_settle : ByteArray := prog_6_method_2_code
def yX4_settle : MethodName := ⟨RX4, "settle", "(LFireworkDeeds$Bay;LFireworkDeeds$Night;)V"⟩
abbrev cX4_askAll : ByteArray := prog_6_method_3_code
def yX4_askAll : MethodName := ⟨RX4, "askAll", "(LFireworkDeeds$Bay;LFireworkDeeds$Night;)Z"⟩
abbrev cX4_nearestToAsk : ByteArray := prog_6_method_4_code
def yX4_nearestToAsk : MethodName := ⟨RX4, "nearestToAsk", "(LFireworkDeeds$Bay;LFireworkDeeds$Night;I)I"⟩
abbrev cX4_ask : ByteArray := prog_6_method_5_code
def yX4_ask : MethodName := ⟨RX4, "ask", "(LFireworkDeeds$Bay;II)V"⟩
abbrev cX4_pair : ByteArray := prog_6_method_6_code
def yX4_pair : MethodName := ⟨RX4, "pair", "(II)V"⟩
abbrev cX4_isNearer : ByteArray := prog_6_method_7_code
def yX4_isNearer : MethodName := ⟨RX4, "isNearer", "(LFireworkDeeds$Bay;III)Z"⟩
def RX5 : String := "FireworkDeeds$Past"
def TX5 : u_T := fun k => match k with
  | 0 => ("FireworkDeeds$Past", "nights", "[LFireworkDeeds$Night;", true)
  | 1 => ("FireworkDeeds$Past", "next", "I", false)
  | _ => ("FireworkDeeds$Past", "count", "I", false)
def tyX5 : Nat → FieldType := fun k => match k with
  | 0 => .array (.object "FireworkDeeds$Night")
  | 1 => .int
  | _ => .int
abbrev wsX50 : List Cond := u_ws RX5 TX5 3
theorem nmX5 : ∀ a, a < 3 → ∀ b, b < 3 → a ≠ b → (TX5 a).2.1 ≠ (TX5 b).2.1 := by decide +kernel
theorem tyX5_ok : ∀ k, k < 3 → parseFieldDescriptor (TX5 k).2.2.1 = some (tyX5 k) := by decide +kernel
abbrev cX5_init : ByteArray := prog_7_method_1_code
def yX5_init : MethodName := ⟨RX5, "<init>", "()V"⟩
abbrev cX5_clear : ByteArray := prog_7_method_2_code
def yX5_clear : MethodName := ⟨RX5, "clear", "()V"⟩
abbrev cX5_push : ByteArray := prog_7_method_3_code
def yX5_push : MethodName := ⟨RX5, "push", "(LFireworkDeeds$Night;)V"⟩
abbrev cX5_pop : ByteArray := prog_7_method_4_code
def yX5_pop : MethodName := ⟨RX5, "pop", "(LFireworkDeeds$Night;)V"⟩
def RX6 : String := "FireworkDeeds$Reader"
def TX6 : u_T := fun k => match k with
  | 0 => ("FireworkDeeds$Reader", "text", "[I", false)
  | 1 => ("FireworkDeeds$Reader", "length", "I", false)
  | 2 => ("FireworkDeeds$Reader", "at", "I", false)
  | 3 => ("FireworkDeeds$Reader", "numberAt", "I", false)
  | 4 => ("FireworkDeeds$Reader", "faultNumber", "I", false)
  | 5 => ("FireworkDeeds$Reader", "faultAt", "I", false)
  | 6 => ("FireworkDeeds$Reader", "smokeTold", "Z", false)
  | _ => ("FireworkDeeds$Reader", "dampTold", "Z", false)
def tyX6 : Nat → FieldType := fun k => match k with
  | 0 => .array .int
  | 1 => .int
  | 2 => .int
  | 3 => .int
  | 4 => .int
  | 5 => .int
  | 6 => .boolean
  | _ => .boolean
abbrev wsX60 : List Cond := u_ws RX6 TX6 8
theorem nmX6 : ∀ a, a < 8 → ∀ b, b < 8 → a ≠ b → (TX6 a).2.1 ≠ (TX6 b).2.1 := by decide +kernel
theorem tyX6_ok : ∀ k, k < 8 → parseFieldDescriptor (TX6 k).2.2.1 = some (tyX6 k) := by decide +kernel
abbrev cX6_init : ByteArray := prog_8_method_1_code
def yX6_init : MethodName := ⟨RX6, "<init>", "()V"⟩
abbrev cX6_read : ByteArray := prog_8_method_2_code
def yX6_read : MethodName := ⟨RX6, "read", "([IILFireworkDeeds$Bay;)I"⟩
abbrev cX6_readClause : ByteArray := prog_8_method_3_code
def yX6_readClause : MethodName := ⟨RX6, "readClause", "(LFireworkDeeds$Bay;)V"⟩
abbrev cX6_readCells : ByteArray := prog_8_method_4_code
def yX6_readCells : MethodName := ⟨RX6, "readCells", "(LFireworkDeeds$Bay;)V"⟩
abbrev cX6_readHouse : ByteArray := prog_8_method_5_code
def yX6_readHouse : MethodName := ⟨RX6, "readHouse", "(LFireworkDeeds$Bay;)V"⟩
abbrev cX6_readSmoke : ByteArray := prog_8_method_6_code
def yX6_readSmoke : MethodName := ⟨RX6, "readSmoke", "(LFireworkDeeds$Bay;)V"⟩
abbrev cX6_readDamp : ByteArray := prog_8_method_7_code
def yX6_readDamp : MethodName := ⟨RX6, "readDamp", "(LFireworkDeeds$Bay;)V"⟩
abbrev cX6_passWord : ByteArray := prog_8_method_8_code
def yX6_passWord : MethodName := ⟨RX6, "passWord", "(Z)V"⟩
abbrev cX6_passEnd : ByteArray := prog_8_method_9_code
def yX6_passEnd : MethodName := ⟨RX6, "passEnd", "()V"⟩
abbrev cX6_readNumber : ByteArray := prog_8_method_10_code
def yX6_readNumber : MethodName := ⟨RX6, "readNumber", "(II)I"⟩
abbrev cX6_readStars : ByteArray := prog_8_method_11_code
def yX6_readStars : MethodName := ⟨RX6, "readStars", "(LFireworkDeeds$Bay;)I"⟩
abbrev cX6_skipBlanks : ByteArray := prog_8_method_12_code
def yX6_skipBlanks : MethodName := ⟨RX6, "skipBlanks", "()V"⟩
abbrev cX6_fail : ByteArray := prog_8_method_13_code
def yX6_fail : MethodName := ⟨RX6, "fail", "(II)V"⟩
def RX7 : String := "FireworkDeeds$Row"
def TX7 : u_T := fun k => match k with
  | 0 => ("FireworkDeeds$Row", "houses", "[I", true)
  | _ => ("FireworkDeeds$Row", "tried", "LFireworkDeeds$Night;", true)
def tyX7 : Nat → FieldType := fun k => match k with
  | 0 => .array .int
  | _ => .object "FireworkDeeds$Night"
abbrev wsX70 : List Cond := u_ws RX7 TX7 2
theorem nmX7 : ∀ a, a < 2 → ∀ b, b < 2 → a ≠ b → (TX7 a).2.1 ≠ (TX7 b).2.1 := by decide +kernel
theorem tyX7_ok : ∀ k, k < 2 → parseFieldDescriptor (TX7 k).2.2.1 = some (tyX7 k) := by decide +kernel
abbrev cX7_init : ByteArray := prog_9_method_1_code
def yX7_init : MethodName := ⟨RX7, "<init>", "()V"⟩
abbrev cX7_find : ByteArray := prog_9_method_2_code
def yX7_find : MethodName := ⟨RX7, "find", "(LFireworkDeeds$Bay;LFireworkDeeds$Night;I)Z"⟩
abbrev cX7_extend : ByteArray := prog_9_method_3_code
def yX7_extend : MethodName := ⟨RX7, "extend", "(LFireworkDeeds$Bay;LFireworkDeeds$Night;II)Z"⟩
abbrev cX7_fits : ByteArray := prog_9_method_4_code
def yX7_fits : MethodName := ⟨RX7, "fits", "(LFireworkDeeds$Bay;II)Z"⟩
def RX8 : String := "FireworkDeeds$Stars"
def TX8 : u_T := fun k => match k with
  | _ => ("", "", "", false)
def tyX8 : Nat → FieldType := fun k => match k with
  | _ => .int
abbrev wsX80 : List Cond := u_ws RX8 TX8 0
theorem nmX8 : ∀ a, a < 0 → ∀ b, b < 0 → a ≠ b → (TX8 a).2.1 ≠ (TX8 b).2.1 := by decide +kernel
theorem tyX8_ok : ∀ k, k < 0 → parseFieldDescriptor (TX8 k).2.2.1 = some (tyX8 k) := by decide +kernel
abbrev cX8_areStars : ByteArray := prog_10_method_2_code
def yX8_areStars : MethodName := ⟨RX8, "areStars", "(I)Z"⟩
abbrev cX8_count : ByteArray := prog_10_method_3_code
def yX8_count : MethodName := ⟨RX8, "count", "(I)I"⟩
abbrev cX8_greens : ByteArray := prog_10_method_4_code
def yX8_greens : MethodName := ⟨RX8, "greens", "(I)I"⟩
abbrev cX8_fromTheEnd : ByteArray := prog_10_method_5_code
def yX8_fromTheEnd : MethodName := ⟨RX8, "fromTheEnd", "(I)I"⟩
abbrev cX8_unlike : ByteArray := prog_10_method_6_code
def yX8_unlike : MethodName := ⟨RX8, "unlike", "(II)I"⟩
def RX9 : String := "FireworkDeeds"
def TX9 : u_T := fun k => match k with
  | 0 => ("FireworkDeeds", "text", "[I", true)
  | 1 => ("FireworkDeeds", "letters", "I", false)
  | 2 => ("FireworkDeeds", "faultAt", "I", false)
  | 3 => ("FireworkDeeds", "shore", "LFireworkDeeds$Bay;", false)
  | 4 => ("FireworkDeeds", "spare", "LFireworkDeeds$Bay;", false)
  | 5 => ("FireworkDeeds", "seed", "I", false)
  | 6 => ("FireworkDeeds", "reader", "LFireworkDeeds$Reader;", true)
  | 7 => ("FireworkDeeds", "now", "LFireworkDeeds$Night;", true)
  | 8 => ("FireworkDeeds", "past", "LFireworkDeeds$Past;", true)
  | 9 => ("FireworkDeeds", "images", "[LFireworkDeeds$Night;", true)
  | 10 => ("FireworkDeeds", "imageKept", "[Z", true)
  | 11 => ("FireworkDeeds", "imageSeed", "[I", true)
  | 12 => ("FireworkDeeds", "row", "LFireworkDeeds$Row;", true)
  | 13 => ("FireworkDeeds", "offers", "LFireworkDeeds$Offers;", true)
  | 14 => ("FireworkDeeds", "ducks", "LFireworkDeeds$Ducks;", true)
  | _ => ("FireworkDeeds", "book", "LFireworkDeeds$Book;", true)
def tyX9 : Nat → FieldType := fun k => match k with
  | 0 => .array .int
  | 1 => .int
  | 2 => .int
  | 3 => .object "FireworkDeeds$Bay"
  | 4 => .object "FireworkDeeds$Bay"
  | 5 => .int
  | 6 => .object "FireworkDeeds$Reader"
  | 7 => .object "FireworkDeeds$Night"
  | 8 => .object "FireworkDeeds$Past"
  | 9 => .array (.object "FireworkDeeds$Night")
  | 10 => .array .boolean
  | 11 => .array .int
  | 12 => .object "FireworkDeeds$Row"
  | 13 => .object "FireworkDeeds$Offers"
  | 14 => .object "FireworkDeeds$Ducks"
  | _ => .object "FireworkDeeds$Book"
abbrev wsX90 : List Cond := u_ws RX9 TX9 16
theorem nmX9 : ∀ a, a < 16 → ∀ b, b < 16 → a ≠ b → (TX9 a).2.1 ≠ (TX9 b).2.1 := by decide +kernel
theorem tyX9_ok : ∀ k, k < 16 → parseFieldDescriptor (TX9 k).2.2.1 = some (tyX9 k) := by decide +kernel
abbrev cX9_init : ByteArray := prog_1_method_1_code
def yX9_init : MethodName := ⟨RX9, "<init>", "()V"⟩
abbrev cX9_feed : ByteArray := prog_1_method_2_code
def yX9_feed : MethodName := ⟨RX9, "feed", "(I)I"⟩
abbrev cX9_bay : ByteArray := prog_1_method_3_code
def yX9_bay : MethodName := ⟨RX9, "bay", "()I"⟩
abbrev cX9_fault : ByteArray := prog_1_method_4_code
def yX9_fault : MethodName := ⟨RX9, "fault", "()I"⟩
abbrev cX9_told : ByteArray := prog_1_method_5_code
def yX9_told : MethodName := ⟨RX9, "told", "(I)I"⟩
abbrev cX9_house : ByteArray := prog_1_method_6_code
def yX9_house : MethodName := ⟨RX9, "house", "(II)I"⟩
abbrev cX9_sees : ByteArray := prog_1_method_7_code
def yX9_sees : MethodName := ⟨RX9, "sees", "(II)I"⟩
abbrev cX9_contract : ByteArray := prog_1_method_8_code
def yX9_contract : MethodName := ⟨RX9, "contract", "(II)I"⟩
abbrev cX9_light : ByteArray := prog_1_method_9_code
def yX9_light : MethodName := ⟨RX9, "light", "(I)I"⟩
abbrev cX9_minute : ByteArray := prog_1_method_10_code
def yX9_minute : MethodName := ⟨RX9, "minute", "(I)I"⟩
abbrev cX9_fog : ByteArray := prog_1_method_11_code
def yX9_fog : MethodName := ⟨RX9, "fog", "(I)I"⟩
abbrev cX9_wind : ByteArray := prog_1_method_12_code
def yX9_wind : MethodName := ⟨RX9, "wind", "(I)I"⟩
abbrev cX9_drift : ByteArray := prog_1_method_13_code
def yX9_drift : MethodName := ⟨RX9, "drift", "(I)I"⟩
abbrev cX9_undo : ByteArray := prog_1_method_14_code
def yX9_undo : MethodName := ⟨RX9, "undo", "()I"⟩
abbrev cX9_order : ByteArray := prog_1_method_15_code
def yX9_order : MethodName := ⟨RX9, "order", "(II)I"⟩
abbrev cX9_signers : ByteArray := prog_1_method_16_code
def yX9_signers : MethodName := ⟨RX9, "signers", "(I)I"⟩
abbrev cX9_farShore : ByteArray := prog_1_method_17_code
def yX9_farShore : MethodName := ⟨RX9, "farShore", "(I)I"⟩
abbrev cX9_cross : ByteArray := prog_1_method_18_code
def yX9_cross : MethodName := ⟨RX9, "cross", "(II)I"⟩
abbrev cX9_treaty : ByteArray := prog_1_method_19_code
def yX9_treaty : MethodName := ⟨RX9, "treaty", "(I)I"⟩
abbrev cX9_forged : ByteArray := prog_1_method_20_code
def yX9_forged : MethodName := ⟨RX9, "forged", "(III)I"⟩
abbrev cX9_damp : ByteArray := prog_1_method_21_code
def yX9_damp : MethodName := ⟨RX9, "damp", "(I)I"⟩
abbrev cX9_partner : ByteArray := prog_1_method_22_code
def yX9_partner : MethodName := ⟨RX9, "partner", "(I)I"⟩
abbrev cX9_duck : ByteArray := prog_1_method_23_code
def yX9_duck : MethodName := ⟨RX9, "duck", "(II)I"⟩
abbrev cX9_lit : ByteArray := prog_1_method_24_code
def yX9_lit : MethodName := ⟨RX9, "lit", "(I)I"⟩
abbrev cX9_write : ByteArray := prog_1_method_25_code
def yX9_write : MethodName := ⟨RX9, "write", "(IIZ)I"⟩
abbrev cX9_tear : ByteArray := prog_1_method_26_code
def yX9_tear : MethodName := ⟨RX9, "tear", "()I"⟩
abbrev cX9_judge : ByteArray := prog_1_method_27_code
def yX9_judge : MethodName := ⟨RX9, "judge", "()I"⟩
abbrev cX9_seed : ByteArray := prog_1_method_28_code
def yX9_seed : MethodName := ⟨RX9, "seed", "(I)I"⟩
abbrev cX9_keep : ByteArray := prog_1_method_29_code
def yX9_keep : MethodName := ⟨RX9, "keep", "(I)I"⟩
abbrev cX9_goBack : ByteArray := prog_1_method_30_code
def yX9_goBack : MethodName := ⟨RX9, "goBack", "(I)I"⟩
abbrev cX9_refusalOfMinutes : ByteArray := prog_1_method_31_code
def yX9_refusalOfMinutes : MethodName := ⟨RX9, "refusalOfMinutes", "(I)I"⟩
abbrev cX9_changeWeather : ByteArray := prog_1_method_32_code
def yX9_changeWeather : MethodName := ⟨RX9, "changeWeather", "()V"⟩
abbrev cX9_draw : ByteArray := prog_1_method_33_code
def yX9_draw : MethodName := ⟨RX9, "draw", "(I)I"⟩
abbrev cX9_cutOdds : ByteArray := prog_1_method_34_code
def yX9_cutOdds : MethodName := ⟨RX9, "cutOdds", "(III)I"⟩
def RX10 : String := "FireworkDeedsModel"
def TX10 : u_T := fun k => match k with
  | 0 => ("FireworkDeedsModel", "wide", "I", false)
  | 1 => ("FireworkDeedsModel", "houses", "I", false)
  | 2 => ("FireworkDeedsModel", "cell", "[I", true)
  | 3 => ("FireworkDeedsModel", "powder", "[I", true)
  | 4 => ("FireworkDeedsModel", "starsMany", "[I", true)
  | 5 => ("FireworkDeedsModel", "stars", "[I", true)
  | 6 => ("FireworkDeedsModel", "smoke", "I", false)
  | 7 => ("FireworkDeedsModel", "damp", "I", false)
  | 8 => ("FireworkDeedsModel", "now", "[I", true)
  | 9 => ("FireworkDeedsModel", "seed", "I", false)
  | 10 => ("FireworkDeedsModel", "text", "[I", true)
  | 11 => ("FireworkDeedsModel", "texted", "I", false)
  | 12 => ("FireworkDeedsModel", "faultPlace", "I", false)
  | 13 => ("FireworkDeedsModel", "at0", "I", false)
  | 14 => ("FireworkDeedsModel", "number", "I", false)
  | 15 => ("FireworkDeedsModel", "numberAt", "I", false)
  | 16 => ("FireworkDeedsModel", "readBay", "[I", true)
  | 17 => ("FireworkDeedsModel", "readHouses", "I", false)
  | 18 => ("FireworkDeedsModel", "readCell", "[I", true)
  | 19 => ("FireworkDeedsModel", "readPowder", "[I", true)
  | 20 => ("FireworkDeedsModel", "readRockets", "[I", true)
  | 21 => ("FireworkDeedsModel", "readMany", "[I", true)
  | 22 => ("FireworkDeedsModel", "readStars", "[I", true)
  | 23 => ("FireworkDeedsModel", "readSmoke", "[I", true)
  | 24 => ("FireworkDeedsModel", "readDamp", "[I", true)
  | 25 => ("FireworkDeedsModel", "hasSmoke", "Z", false)
  | 26 => ("FireworkDeedsModel", "hasDamp", "Z", false)
  | 27 => ("FireworkDeedsModel", "undos", "I", false)
  | 28 => ("FireworkDeedsModel", "past", "[I", true)
  | 29 => ("FireworkDeedsModel", "was", "[I", true)
  | 30 => ("FireworkDeedsModel", "figures", "[I", true)
  | 31 => ("FireworkDeedsModel", "refused", "[I", true)
  | 32 => ("FireworkDeedsModel", "partners", "[I", true)
  | 33 => ("FireworkDeedsModel", "ducks", "I", false)
  | 34 => ("FireworkDeedsModel", "duckMinute", "[I", true)
  | 35 => ("FireworkDeedsModel", "duckCell", "[I", true)
  | 36 => ("FireworkDeedsModel", "booked", "I", false)
  | 37 => ("FireworkDeedsModel", "bookA", "[I", true)
  | 38 => ("FireworkDeedsModel", "bookB", "[I", true)
  | 39 => ("FireworkDeedsModel", "bookHolds", "[Z", true)
  | 40 => ("FireworkDeedsModel", "images", "[I", true)
  | _ => ("FireworkDeedsModel", "isKept", "[Z", true)
def tyX10 : Nat → FieldType := fun k => match k with
  | 0 => .int
  | 1 => .int
  | 2 => .array .int
  | 3 => .array .int
  | 4 => .array .int
  | 5 => .array .int
  | 6 => .int
  | 7 => .int
  | 8 => .array .int
  | 9 => .int
  | 10 => .array .int
  | 11 => .int
  | 12 => .int
  | 13 => .int
  | 14 => .int
  | 15 => .int
  | 16 => .array .int
  | 17 => .int
  | 18 => .array .int
  | 19 => .array .int
  | 20 => .array .int
  | 21 => .array .int
  | 22 => .array .int
  | 23 => .array .int
  | 24 => .array .int
  | 25 => .boolean
  | 26 => .boolean
  | 27 => .int
  | 28 => .array .int
  | 29 => .array .int
  | 30 => .array .int
  | 31 => .array .int
  | 32 => .array .int
  | 33 => .int
  | 34 => .array .int
  | 35 => .array .int
  | 36 => .int
  | 37 => .array .int
  | 38 => .array .int
  | 39 => .array .boolean
  | 40 => .array .int
  | _ => .array .boolean
abbrev wsX100 : List Cond := u_ws RX10 TX10 42
theorem nmX10 : ∀ a, a < 42 → ∀ b, b < 42 → a ≠ b → (TX10 a).2.1 ≠ (TX10 b).2.1 := by decide +kernel
theorem tyX10_ok : ∀ k, k < 42 → parseFieldDescriptor (TX10 k).2.2.1 = some (tyX10 k) := by decide +kernel
abbrev cX10_init : ByteArray := prog_12_method_1_code
def yX10_init : MethodName := ⟨RX10, "<init>", "()V"⟩
abbrev cX10_in : ByteArray := prog_12_method_3_code
def yX10_in : MethodName := ⟨RX10, "in", "(JJJ)Z"⟩
abbrev cX10_has : ByteArray := prog_12_method_4_code
def yX10_has : MethodName := ⟨RX10, "has", "(II)Z"⟩
abbrev cX10_bits : ByteArray := prog_12_method_5_code
def yX10_bits : MethodName := ⟨RX10, "bits", "(I)I"⟩
abbrev cX10_apart : ByteArray := prog_12_method_6_code
def yX10_apart : MethodName := ⟨RX10, "apart", "(II)I"⟩
abbrev cX10_isHouse : ByteArray := prog_12_method_7_code
def yX10_isHouse : MethodName := ⟨RX10, "isHouse", "(I)Z"⟩
abbrev cX10_isSet : ByteArray := prog_12_method_8_code
def yX10_isSet : MethodName := ⟨RX10, "isSet", "(I)Z"⟩
abbrev cX10_feed : ByteArray := prog_12_method_9_code
def yX10_feed : MethodName := ⟨RX10, "feed", "(I)I"⟩
abbrev cX10_here : ByteArray := prog_12_method_10_code
def yX10_here : MethodName := ⟨RX10, "here", "()I"⟩
abbrev cX10_fails : ByteArray := prog_12_method_11_code
def yX10_fails : MethodName := ⟨RX10, "fails", "(II)I"⟩
abbrev cX10_takeNumber : ByteArray := prog_12_method_12_code
def yX10_takeNumber : MethodName := ⟨RX10, "takeNumber", "(II)I"⟩
abbrev cX10_into : ByteArray := prog_12_method_13_code
def yX10_into : MethodName := ⟨RX10, "into", "([IIII)I"⟩
abbrev cX10_takeBay : ByteArray := prog_12_method_14_code
def yX10_takeBay : MethodName := ⟨RX10, "takeBay", "()I"⟩
abbrev cX10_takeCell : ByteArray := prog_12_method_15_code
def yX10_takeCell : MethodName := ⟨RX10, "takeCell", "(I)I"⟩
abbrev cX10_isStar : ByteArray := prog_12_method_16_code
def yX10_isStar : MethodName := ⟨RX10, "isStar", "(I)Z"⟩
abbrev cX10_areLike : ByteArray := prog_12_method_17_code
def yX10_areLike : MethodName := ⟨RX10, "areLike", "(II)Z"⟩
abbrev cX10_takeStars : ByteArray := prog_12_method_18_code
def yX10_takeStars : MethodName := ⟨RX10, "takeStars", "(I)I"⟩
abbrev cX10_takeHouse : ByteArray := prog_12_method_19_code
def yX10_takeHouse : MethodName := ⟨RX10, "takeHouse", "()I"⟩
abbrev cX10_takeClause : ByteArray := prog_12_method_20_code
def yX10_takeClause : MethodName := ⟨RX10, "takeClause", "()I"⟩
abbrev cX10_takeRead : ByteArray := prog_12_method_21_code
def yX10_takeRead : MethodName := ⟨RX10, "takeRead", "()V"⟩
abbrev cX10_bay : ByteArray := prog_12_method_22_code
def yX10_bay : MethodName := ⟨RX10, "bay", "()I"⟩
abbrev cX10_fault : ByteArray := prog_12_method_23_code
def yX10_fault : MethodName := ⟨RX10, "fault", "()I"⟩
abbrev cX10_isGreen : ByteArray := prog_12_method_24_code
def yX10_isGreen : MethodName := ⟨RX10, "isGreen", "(I)Z"⟩
abbrev cX10_contracts : ByteArray := prog_12_method_25_code
def yX10_contracts : MethodName := ⟨RX10, "contracts", "(Z)I"⟩
abbrev cX10_told : ByteArray := prog_12_method_26_code
def yX10_told : MethodName := ⟨RX10, "told", "(I)I"⟩
abbrev cX10_starNumber : ByteArray := prog_12_method_27_code
def yX10_starNumber : MethodName := ⟨RX10, "starNumber", "(I)I"⟩
abbrev cX10_readAs : ByteArray := prog_12_method_28_code
def yX10_readAs : MethodName := ⟨RX10, "readAs", "(I)I"⟩
abbrev cX10_house : ByteArray := prog_12_method_29_code
def yX10_house : MethodName := ⟨RX10, "house", "(II)I"⟩
abbrev cX10_overOf : ByteArray := prog_12_method_30_code
def yX10_overOf : MethodName := ⟨RX10, "overOf", "(I)I"⟩
abbrev cX10_isHidden : ByteArray := prog_12_method_31_code
def yX10_isHidden : MethodName := ⟨RX10, "isHidden", "(II)Z"⟩
abbrev cX10_reach : ByteArray := prog_12_method_32_code
def yX10_reach : MethodName := ⟨RX10, "reach", "(I)I"⟩
abbrev cX10_seers : ByteArray := prog_12_method_33_code
def yX10_seers : MethodName := ⟨RX10, "seers", "(I)I"⟩
abbrev cX10_areTwo : ByteArray := prog_12_method_34_code
def yX10_areTwo : MethodName := ⟨RX10, "areTwo", "(II)Z"⟩
abbrev cX10_sees : ByteArray := prog_12_method_35_code
def yX10_sees : MethodName := ⟨RX10, "sees", "(II)I"⟩
abbrev cX10_contract : ByteArray := prog_12_method_36_code
def yX10_contract : MethodName := ⟨RX10, "contract", "(II)I"⟩
abbrev cX10_remember : ByteArray := prog_12_method_37_code
def yX10_remember : MethodName := ⟨RX10, "remember", "()V"⟩
abbrev cX10_holds : ByteArray := prog_12_method_38_code
def yX10_holds : MethodName := ⟨RX10, "holds", "(II)Z"⟩
abbrev cX10_lightNow : ByteArray := prog_12_method_39_code
def yX10_lightNow : MethodName := ⟨RX10, "lightNow", "(I)V"⟩
abbrev cX10_light : ByteArray := prog_12_method_40_code
def yX10_light : MethodName := ⟨RX10, "light", "(I)I"⟩
abbrev cX10_minutesRefused : ByteArray := prog_12_method_41_code
def yX10_minutesRefused : MethodName := ⟨RX10, "minutesRefused", "(I)I"⟩
abbrev cX10_minute : ByteArray := prog_12_method_42_code
def yX10_minute : MethodName := ⟨RX10, "minute", "(I)I"⟩
abbrev cX10_fog : ByteArray := prog_12_method_43_code
def yX10_fog : MethodName := ⟨RX10, "fog", "(I)I"⟩
abbrev cX10_wind : ByteArray := prog_12_method_44_code
def yX10_wind : MethodName := ⟨RX10, "wind", "(I)I"⟩
abbrev cX10_draw : ByteArray := prog_12_method_45_code
def yX10_draw : MethodName := ⟨RX10, "draw", "(I)I"⟩
abbrev cX10_drift : ByteArray := prog_12_method_46_code
def yX10_drift : MethodName := ⟨RX10, "drift", "(I)I"⟩
abbrev cX10_undo : ByteArray := prog_12_method_47_code
def yX10_undo : MethodName := ⟨RX10, "undo", "()I"⟩
abbrev cX10_figure : ByteArray := prog_12_method_48_code
def yX10_figure : MethodName := ⟨RX10, "figure", "(III)I"⟩
abbrev cX10_isOrder : ByteArray := prog_12_method_49_code
def yX10_isOrder : MethodName := ⟨RX10, "isOrder", "(III)Z"⟩
abbrev cX10_order : ByteArray := prog_12_method_50_code
def yX10_order : MethodName := ⟨RX10, "order", "(II)I"⟩
abbrev cX10_signers : ByteArray := prog_12_method_51_code
def yX10_signers : MethodName := ⟨RX10, "signers", "(I)I"⟩
abbrev cX10_isFarOf : ByteArray := prog_12_method_52_code
def yX10_isFarOf : MethodName := ⟨RX10, "isFarOf", "(II)Z"⟩
abbrev cX10_farShore : ByteArray := prog_12_method_53_code
def yX10_farShore : MethodName := ⟨RX10, "farShore", "(I)I"⟩
abbrev cX10_cross : ByteArray := prog_12_method_54_code
def yX10_cross : MethodName := ⟨RX10, "cross", "(II)I"⟩
abbrev cX10_treaty : ByteArray := prog_12_method_55_code
def yX10_treaty : MethodName := ⟨RX10, "treaty", "(I)I"⟩
abbrev cX10_figuresOf : ByteArray := prog_12_method_56_code
def yX10_figuresOf : MethodName := ⟨RX10, "figuresOf", "(I)I"⟩
abbrev cX10_forged : ByteArray := prog_12_method_57_code
def yX10_forged : MethodName := ⟨RX10, "forged", "(III)I"⟩
abbrev cX10_damp : ByteArray := prog_12_method_58_code
def yX10_damp : MethodName := ⟨RX10, "damp", "(I)I"⟩
abbrev cX10_nearest : ByteArray := prog_12_method_59_code
def yX10_nearest : MethodName := ⟨RX10, "nearest", "(I)I"⟩
abbrev cX10_isKeptOf : ByteArray := prog_12_method_60_code
def yX10_isKeptOf : MethodName := ⟨RX10, "isKeptOf", "(III)Z"⟩
abbrev cX10_ask : ByteArray := prog_12_method_61_code
def yX10_ask : MethodName := ⟨RX10, "ask", "(II)V"⟩
abbrev cX10_partner : ByteArray := prog_12_method_62_code
def yX10_partner : MethodName := ⟨RX10, "partner", "(I)I"⟩
abbrev cX10_duck : ByteArray := prog_12_method_63_code
def yX10_duck : MethodName := ⟨RX10, "duck", "(II)I"⟩
abbrev cX10_litOver : ByteArray := prog_12_method_64_code
def yX10_litOver : MethodName := ⟨RX10, "litOver", "(I)I"⟩
abbrev cX10_lit : ByteArray := prog_12_method_65_code
def yX10_lit : MethodName := ⟨RX10, "lit", "(I)I"⟩
abbrev cX10_write : ByteArray := prog_12_method_66_code
def yX10_write : MethodName := ⟨RX10, "write", "(IIZ)I"⟩
abbrev cX10_tear : ByteArray := prog_12_method_67_code
def yX10_tear : MethodName := ⟨RX10, "tear", "()I"⟩
abbrev cX10_judge : ByteArray := prog_12_method_68_code
def yX10_judge : MethodName := ⟨RX10, "judge", "()I"⟩
abbrev cX10_seed : ByteArray := prog_12_method_69_code
def yX10_seed : MethodName := ⟨RX10, "seed", "(I)I"⟩
abbrev cX10_keep : ByteArray := prog_12_method_70_code
def yX10_keep : MethodName := ⟨RX10, "keep", "(I)I"⟩
abbrev cX10_goBack : ByteArray := prog_12_method_71_code
def yX10_goBack : MethodName := ⟨RX10, "goBack", "(I)I"⟩
def RJ6 : String := "java/lang/Integer"
def TJ6 : u_T := fun k => match k with
  | _ => ("", "", "", false)
def tyJ6 : Nat → FieldType := fun k => match k with
  | _ => .int
abbrev wsJ60 : List Cond := u_ws RJ6 TJ6 0
theorem nmJ6 : ∀ a, a < 0 → ∀ b, b < 0 → a ≠ b → (TJ6 a).2.1 ≠ (TJ6 b).2.1 := by decide +kernel
theorem tyJ6_ok : ∀ k, k < 0 → parseFieldDescriptor (TJ6 k).2.2.1 = some (tyJ6 k) := by decide +kernel
abbrev cJ6_bitCount_0f7a4 : ByteArray := prog_13_method_49_code
def yJ6_bitCount_0f7a4 : MethodName := ⟨RJ6, "bitCount", "(I)I"⟩
def RJ9 : String := "java/lang/Math"
def TJ9 : u_T := fun k => match k with
  | _ => ("", "", "", false)
def tyJ9 : Nat → FieldType := fun k => match k with
  | _ => .int
abbrev wsJ90 : List Cond := u_ws RJ9 TJ9 0
theorem nmJ9 : ∀ a, a < 0 → ∀ b, b < 0 → a ≠ b → (TJ9 a).2.1 ≠ (TJ9 b).2.1 := by decide +kernel
theorem tyJ9_ok : ∀ k, k < 0 → parseFieldDescriptor (TJ9 k).2.2.1 = some (tyJ9 k) := by decide +kernel
abbrev cJ9_abs_0f7a4 : ByteArray := prog_14_method_59_code
def yJ9_abs_0f7a4 : MethodName := ⟨RJ9, "abs", "(I)I"⟩
abbrev cJ9_max_7cf53 : ByteArray := prog_14_method_65_code
def yJ9_max_7cf53 : MethodName := ⟨RJ9, "max", "(II)I"⟩
abbrev cJ9_min_7cf53 : ByteArray := prog_14_method_69_code
def yJ9_min_7cf53 : MethodName := ⟨RJ9, "min", "(II)I"⟩
def RL : String := "FireworkDeedsLaw"
abbrev cL_law : ByteArray := code
def yL_law : MethodName := ⟨RL, "law", "([I)Z"⟩
theorem inJ6 : ∀ w ∈ wsJ60, w ∈ lw_tbl := by decide +kernel
theorem inJ9 : ∀ w ∈ wsJ90, w ∈ lw_tbl := by decide +kernel
abbrev vwCl : List vw_C := [(RX0, TX0, 10), (RX1, TX1, 4), (RX2, TX2, 3), (RX3, TX3, 8), (RX4, TX4, 2), (RX5, TX5, 3), (RX6, TX6, 8), (RX7, TX7, 2), (RX9, TX9, 16), (RX10, TX10, 42)]
/-- the tables' good words: the words of every contract here -/
def qW : List Cond := lw_tbl.filter goodWord
theorem qW_mem {w : Cond} {i : Nat} (h : lw_tbl[i]? = some w) (hg : goodWord w = true) : w ∈ qW := List.mem_filter.mpr ⟨List.mem_of_getElem? h, hg⟩
theorem qW_tbl {w : Cond} (h : w ∈ qW) : w ∈ lw_tbl := (List.mem_filter.mp h).1
theorem qW_good {w : Cond} (h : w ∈ qW) : goodWord w = true := (List.mem_filter.mp h).2
end
section
theorem dX0_init_0 : decode cX0_init 0 = .ok (.aload_n 0, 1) := by decide +kernel
theorem dX0_init_1 : decode cX0_init 1 = .ok (.invokespecial 3, 3) := by decide +kernel
theorem dX0_init_4 : decode cX0_init 4 = .ok (.aload_n 0, 1) := by decide +kernel
theorem dX0_init_5 : decode cX0_init 5 = .ok (.bipush 8, 2) := by decide +kernel
theorem dX0_init_7 : decode cX0_init 7 = .ok (.newarray .int, 2) := by decide +kernel
theorem dX0_init_9 : decode cX0_init 9 = .ok (.putfield 9, 3) := by decide +kernel
theorem dX0_init_12 : decode cX0_init 12 = .ok (.aload_n 0, 1) := by decide +kernel
theorem dX0_init_13 : decode cX0_init 13 = .ok (.bipush 8, 2) := by decide +kernel
theorem dX0_init_15 : decode cX0_init 15 = .ok (.newarray .int, 2) := by decide +kernel
theorem dX0_init_17 : decode cX0_init 17 = .ok (.putfield 15, 3) := by decide +kernel
theorem dX0_init_20 : decode cX0_init 20 = .ok (.aload_n 0, 1) := by decide +kernel
theorem dX0_init_21 : decode cX0_init 21 = .ok (.bipush 8, 2) := by decide +kernel
theorem dX0_init_23 : decode cX0_init 23 = .ok (.newarray .int, 2) := by decide +kernel
theorem dX0_init_25 : decode cX0_init 25 = .ok (.putfield 18, 3) := by decide +kernel
theorem dX0_init_28 : decode cX0_init 28 = .ok (.aload_n 0, 1) := by decide +kernel
theorem dX0_init_29 : decode cX0_init 29 = .ok (.bipush 8, 2) := by decide +kernel
theorem dX0_init_31 : decode cX0_init 31 = .ok (.newarray .int, 2) := by decide +kernel
theorem dX0_init_33 : decode cX0_init 33 = .ok (.putfield 21, 3) := by decide +kernel
theorem dX0_init_36 : decode cX0_init 36 = .ok (.aload_n 0, 1) := by decide +kernel
theorem dX0_init_37 : decode cX0_init 37 = .ok (.invokevirtual 24, 3) := by decide +kernel
theorem dX0_init_40 : decode cX0_init 40 = .ok (.return_, 1) := by decide +kernel
theorem dX0_empty_0 : decode cX0_empty 0 = .ok (.aload_n 0, 1) := by decide +kernel
theorem dX0_empty_1 : decode cX0_empty 1 = .ok (.iconst 0, 1) := by decide +kernel
theorem dX0_empty_2 : decode cX0_empty 2 = .ok (.putfield 27, 3) := by decide +kernel
theorem dX0_empty_5 : decode cX0_empty 5 = .ok (.aload_n 0, 1) := by decide +kernel
theorem dX0_empty_6 : decode cX0_empty 6 = .ok (.iconst 0, 1) := by decide +kernel
theorem dX0_empty_7 : decode cX0_empty 7 = .ok (.putfield 31, 3) := by decide +kernel
theorem dX0_empty_10 : decode cX0_empty 10 = .ok (.aload_n 0, 1) := by decide +kernel
theorem dX0_empty_11 : decode cX0_empty 11 = .ok (.iconst 0, 1) := by decide +kernel
theorem dX0_empty_12 : decode cX0_empty 12 = .ok (.putfield 34, 3) := by decide +kernel
theorem dX0_empty_15 : decode cX0_empty 15 = .ok (.aload_n 0, 1) := by decide +kernel
theorem dX0_empty_16 : decode cX0_empty 16 = .ok (.iconst 2, 1) := by decide +kernel
theorem dX0_empty_17 : decode cX0_empty 17 = .ok (.putfield 37, 3) := by decide +kernel
theorem dX0_empty_20 : decode cX0_empty 20 = .ok (.aload_n 0, 1) := by decide +kernel
theorem dX0_empty_21 : decode cX0_empty 21 = .ok (.bipush 10, 2) := by decide +kernel
theorem dX0_empty_23 : decode cX0_empty 23 = .ok (.putfield 40, 3) := by decide +kernel
theorem dX0_empty_26 : decode cX0_empty 26 = .ok (.aload_n 0, 1) := by decide +kernel
theorem dX0_empty_27 : decode cX0_empty 27 = .ok (.iconst 0, 1) := by decide +kernel
theorem dX0_empty_28 : decode cX0_empty 28 = .ok (.putfield 43, 3) := by decide +kernel
theorem dX0_empty_31 : decode cX0_empty 31 = .ok (.return_, 1) := by decide +kernel
theorem dX0_settle_0 : decode cX0_settle 0 = .ok (.aload_n 0, 1) := by decide +kernel
theorem dX0_settle_1 : decode cX0_settle 1 = .ok (.getfield 43, 3) := by decide +kernel
theorem dX0_settle_4 : decode cX0_settle 4 = .ok (.bipush 8, 2) := by decide +kernel
theorem dX0_settle_6 : decode cX0_settle 6 = .ok (.if_icmp .lt 4, 3) := by decide +kernel
theorem dX0_settle_9 : decode cX0_settle 9 = .ok (.return_, 1) := by decide +kernel
theorem dX0_settle_10 : decode cX0_settle 10 = .ok (.aload_n 0, 1) := by decide +kernel
theorem dX0_settle_11 : decode cX0_settle 11 = .ok (.getfield 9, 3) := by decide +kernel
theorem dX0_settle_14 : decode cX0_settle 14 = .ok (.aload_n 0, 1) := by decide +kernel
theorem dX0_settle_15 : decode cX0_settle 15 = .ok (.getfield 43, 3) := by decide +kernel
theorem dX0_settle_18 : decode cX0_settle 18 = .ok (.iload_n 1, 1) := by decide +kernel
theorem dX0_settle_19 : decode cX0_settle 19 = .ok (.iastore, 1) := by decide +kernel
theorem dX0_settle_20 : decode cX0_settle 20 = .ok (.aload_n 0, 1) := by decide +kernel
theorem dX0_settle_21 : decode cX0_settle 21 = .ok (.getfield 15, 3) := by decide +kernel
theorem dX0_settle_24 : decode cX0_settle 24 = .ok (.aload_n 0, 1) := by decide +kernel
theorem dX0_settle_25 : decode cX0_settle 25 = .ok (.getfield 43, 3) := by decide +kernel
theorem dX0_settle_28 : decode cX0_settle 28 = .ok (.iload_n 2, 1) := by decide +kernel
theorem dX0_settle_29 : decode cX0_settle 29 = .ok (.iastore, 1) := by decide +kernel
theorem dX0_settle_30 : decode cX0_settle 30 = .ok (.aload_n 0, 1) := by decide +kernel
theorem dX0_settle_31 : decode cX0_settle 31 = .ok (.getfield 18, 3) := by decide +kernel
theorem dX0_settle_34 : decode cX0_settle 34 = .ok (.aload_n 0, 1) := by decide +kernel
theorem dX0_settle_35 : decode cX0_settle 35 = .ok (.getfield 43, 3) := by decide +kernel
theorem dX0_settle_38 : decode cX0_settle 38 = .ok (.iload_n 3, 1) := by decide +kernel
theorem dX0_settle_39 : decode cX0_settle 39 = .ok (.iastore, 1) := by decide +kernel
theorem dX0_settle_40 : decode cX0_settle 40 = .ok (.aload_n 0, 1) := by decide +kernel
theorem dX0_settle_41 : decode cX0_settle 41 = .ok (.getfield 21, 3) := by decide +kernel
theorem dX0_settle_44 : decode cX0_settle 44 = .ok (.aload_n 0, 1) := by decide +kernel
theorem dX0_settle_45 : decode cX0_settle 45 = .ok (.getfield 43, 3) := by decide +kernel
theorem dX0_settle_48 : decode cX0_settle 48 = .ok (.iload 4, 2) := by decide +kernel
theorem dX0_settle_50 : decode cX0_settle 50 = .ok (.iastore, 1) := by decide +kernel
theorem dX0_settle_51 : decode cX0_settle 51 = .ok (.aload_n 0, 1) := by decide +kernel
theorem dX0_settle_52 : decode cX0_settle 52 = .ok (.dup, 1) := by decide +kernel
theorem dX0_settle_53 : decode cX0_settle 53 = .ok (.getfield 43, 3) := by decide +kernel
theorem dX0_settle_56 : decode cX0_settle 56 = .ok (.iconst 1, 1) := by decide +kernel
theorem dX0_settle_57 : decode cX0_settle 57 = .ok (.iadd, 1) := by decide +kernel
theorem dX0_settle_58 : decode cX0_settle 58 = .ok (.putfield 43, 3) := by decide +kernel
theorem dX0_settle_61 : decode cX0_settle 61 = .ok (.return_, 1) := by decide +kernel
theorem dX0_has_0 : decode cX0_has 0 = .ok (.iload_n 1, 1) := by decide +kernel
theorem dX0_has_1 : decode cX0_has 1 = .ok (.ifCond .lt 15, 3) := by decide +kernel
theorem dX0_has_4 : decode cX0_has 4 = .ok (.iload_n 1, 1) := by decide +kernel
theorem dX0_has_5 : decode cX0_has 5 = .ok (.aload_n 0, 1) := by decide +kernel
theorem dX0_has_6 : decode cX0_has 6 = .ok (.getfield 43, 3) := by decide +kernel
theorem dX0_has_9 : decode cX0_has 9 = .ok (.if_icmp .ge 7, 3) := by decide +kernel
theorem dX0_has_12 : decode cX0_has 12 = .ok (.iconst 1, 1) := by decide +kernel
theorem dX0_has_13 : decode cX0_has 13 = .ok (.goto 4, 3) := by decide +kernel
theorem dX0_has_16 : decode cX0_has 16 = .ok (.iconst 0, 1) := by decide +kernel
theorem dX0_has_17 : decode cX0_has 17 = .ok (.ireturn, 1) := by decide +kernel
theorem dX0_hasTwo_0 : decode cX0_hasTwo 0 = .ok (.aload_n 0, 1) := by decide +kernel
theorem dX0_hasTwo_1 : decode cX0_hasTwo 1 = .ok (.iload_n 1, 1) := by decide +kernel
theorem dX0_hasTwo_2 : decode cX0_hasTwo 2 = .ok (.invokevirtual 46, 3) := by decide +kernel
theorem dX0_hasTwo_5 : decode cX0_hasTwo 5 = .ok (.ifCond .eq 20, 3) := by decide +kernel
theorem dX0_hasTwo_8 : decode cX0_hasTwo 8 = .ok (.aload_n 0, 1) := by decide +kernel
theorem dX0_hasTwo_9 : decode cX0_hasTwo 9 = .ok (.iload_n 2, 1) := by decide +kernel
theorem dX0_hasTwo_10 : decode cX0_hasTwo 10 = .ok (.invokevirtual 46, 3) := by decide +kernel
theorem dX0_hasTwo_13 : decode cX0_hasTwo 13 = .ok (.ifCond .eq 12, 3) := by decide +kernel
theorem dX0_hasTwo_16 : decode cX0_hasTwo 16 = .ok (.iload_n 1, 1) := by decide +kernel
theorem dX0_hasTwo_17 : decode cX0_hasTwo 17 = .ok (.iload_n 2, 1) := by decide +kernel
theorem dX0_hasTwo_18 : decode cX0_hasTwo 18 = .ok (.if_icmp .eq 7, 3) := by decide +kernel
theorem dX0_hasTwo_21 : decode cX0_hasTwo 21 = .ok (.iconst 1, 1) := by decide +kernel
theorem dX0_hasTwo_22 : decode cX0_hasTwo 22 = .ok (.goto 4, 3) := by decide +kernel
theorem dX0_hasTwo_25 : decode cX0_hasTwo 25 = .ok (.iconst 0, 1) := by decide +kernel
theorem dX0_hasTwo_26 : decode cX0_hasTwo 26 = .ok (.ireturn, 1) := by decide +kernel
theorem dX0_hasAll_0 : decode cX0_hasAll 0 = .ok (.iload_n 1, 1) := by decide +kernel
theorem dX0_hasAll_1 : decode cX0_hasAll 1 = .ok (.ifCond .lt 17, 3) := by decide +kernel
theorem dX0_hasAll_4 : decode cX0_hasAll 4 = .ok (.iload_n 1, 1) := by decide +kernel
theorem dX0_hasAll_5 : decode cX0_hasAll 5 = .ok (.iconst 1, 1) := by decide +kernel
theorem dX0_hasAll_6 : decode cX0_hasAll 6 = .ok (.aload_n 0, 1) := by decide +kernel
theorem dX0_hasAll_7 : decode cX0_hasAll 7 = .ok (.getfield 43, 3) := by decide +kernel
theorem dX0_hasAll_10 : decode cX0_hasAll 10 = .ok (.ishl, 1) := by decide +kernel
theorem dX0_hasAll_11 : decode cX0_hasAll 11 = .ok (.if_icmp .ge 7, 3) := by decide +kernel
theorem dX0_hasAll_14 : decode cX0_hasAll 14 = .ok (.iconst 1, 1) := by decide +kernel
theorem dX0_hasAll_15 : decode cX0_hasAll 15 = .ok (.goto 4, 3) := by decide +kernel
theorem dX0_hasAll_18 : decode cX0_hasAll 18 = .ok (.iconst 0, 1) := by decide +kernel
theorem dX0_hasAll_19 : decode cX0_hasAll 19 = .ok (.ireturn, 1) := by decide +kernel
theorem dX0_apart_0 : decode cX0_apart 0 = .ok (.aload_n 0, 1) := by decide +kernel
theorem dX0_apart_1 : decode cX0_apart 1 = .ok (.getfield 9, 3) := by decide +kernel
theorem dX0_apart_4 : decode cX0_apart 4 = .ok (.iload_n 1, 1) := by decide +kernel
theorem dX0_apart_5 : decode cX0_apart 5 = .ok (.iaload, 1) := by decide +kernel
theorem dX0_apart_6 : decode cX0_apart 6 = .ok (.aload_n 0, 1) := by decide +kernel
theorem dX0_apart_7 : decode cX0_apart 7 = .ok (.getfield 9, 3) := by decide +kernel
theorem dX0_apart_10 : decode cX0_apart 10 = .ok (.iload_n 2, 1) := by decide +kernel
theorem dX0_apart_11 : decode cX0_apart 11 = .ok (.iaload, 1) := by decide +kernel
theorem dX0_apart_12 : decode cX0_apart 12 = .ok (.isub, 1) := by decide +kernel
theorem dX0_apart_13 : decode cX0_apart 13 = .ok (.invokestatic 50, 3) := by decide +kernel
theorem dX0_apart_16 : decode cX0_apart 16 = .ok (.ireturn, 1) := by decide +kernel
theorem dX0_houseOn_0 : decode cX0_houseOn 0 = .ok (.iconst 0, 1) := by decide +kernel
theorem dX0_houseOn_1 : decode cX0_houseOn 1 = .ok (.istore_n 2, 1) := by decide +kernel
theorem dX0_houseOn_2 : decode cX0_houseOn 2 = .ok (.iload_n 2, 1) := by decide +kernel
theorem dX0_houseOn_3 : decode cX0_houseOn 3 = .ok (.aload_n 0, 1) := by decide +kernel
theorem dX0_houseOn_4 : decode cX0_houseOn 4 = .ok (.getfield 43, 3) := by decide +kernel
theorem dX0_houseOn_7 : decode cX0_houseOn 7 = .ok (.if_icmp .ge 21, 3) := by decide +kernel
theorem dX0_houseOn_10 : decode cX0_houseOn 10 = .ok (.aload_n 0, 1) := by decide +kernel
theorem dX0_houseOn_11 : decode cX0_houseOn 11 = .ok (.getfield 9, 3) := by decide +kernel
theorem dX0_houseOn_14 : decode cX0_houseOn 14 = .ok (.iload_n 2, 1) := by decide +kernel
theorem dX0_houseOn_15 : decode cX0_houseOn 15 = .ok (.iaload, 1) := by decide +kernel
theorem dX0_houseOn_16 : decode cX0_houseOn 16 = .ok (.iload_n 1, 1) := by decide +kernel
theorem dX0_houseOn_17 : decode cX0_houseOn 17 = .ok (.if_icmp .ne 5, 3) := by decide +kernel
theorem dX0_houseOn_20 : decode cX0_houseOn 20 = .ok (.iload_n 2, 1) := by decide +kernel
theorem dX0_houseOn_21 : decode cX0_houseOn 21 = .ok (.ireturn, 1) := by decide +kernel
theorem dX0_houseOn_22 : decode cX0_houseOn 22 = .ok (.iinc 2 1, 3) := by decide +kernel
theorem dX0_houseOn_25 : decode cX0_houseOn 25 = .ok (.goto (-23), 3) := by decide +kernel
theorem dX0_houseOn_28 : decode cX0_houseOn 28 = .ok (.iconst (-1), 1) := by decide +kernel
theorem dX0_houseOn_29 : decode cX0_houseOn 29 = .ok (.ireturn, 1) := by decide +kernel
theorem dX0_houseOfStars_0 : decode cX0_houseOfStars 0 = .ok (.iconst 0, 1) := by decide +kernel
theorem dX0_houseOfStars_1 : decode cX0_houseOfStars 1 = .ok (.istore_n 2, 1) := by decide +kernel
theorem dX0_houseOfStars_2 : decode cX0_houseOfStars 2 = .ok (.iload_n 2, 1) := by decide +kernel
theorem dX0_houseOfStars_3 : decode cX0_houseOfStars 3 = .ok (.aload_n 0, 1) := by decide +kernel
theorem dX0_houseOfStars_4 : decode cX0_houseOfStars 4 = .ok (.getfield 43, 3) := by decide +kernel
theorem dX0_houseOfStars_7 : decode cX0_houseOfStars 7 = .ok (.if_icmp .ge 21, 3) := by decide +kernel
theorem dX0_houseOfStars_10 : decode cX0_houseOfStars 10 = .ok (.aload_n 0, 1) := by decide +kernel
theorem dX0_houseOfStars_11 : decode cX0_houseOfStars 11 = .ok (.getfield 21, 3) := by decide +kernel
theorem dX0_houseOfStars_14 : decode cX0_houseOfStars 14 = .ok (.iload_n 2, 1) := by decide +kernel
theorem dX0_houseOfStars_15 : decode cX0_houseOfStars 15 = .ok (.iaload, 1) := by decide +kernel
theorem dX0_houseOfStars_16 : decode cX0_houseOfStars 16 = .ok (.iload_n 1, 1) := by decide +kernel
theorem dX0_houseOfStars_17 : decode cX0_houseOfStars 17 = .ok (.if_icmp .ne 5, 3) := by decide +kernel
theorem dX0_houseOfStars_20 : decode cX0_houseOfStars 20 = .ok (.iload_n 2, 1) := by decide +kernel
theorem dX0_houseOfStars_21 : decode cX0_houseOfStars 21 = .ok (.ireturn, 1) := by decide +kernel
theorem dX0_houseOfStars_22 : decode cX0_houseOfStars 22 = .ok (.iinc 2 1, 3) := by decide +kernel
theorem dX0_houseOfStars_25 : decode cX0_houseOfStars 25 = .ok (.goto (-23), 3) := by decide +kernel
theorem dX0_houseOfStars_28 : decode cX0_houseOfStars 28 = .ok (.iconst (-1), 1) := by decide +kernel
theorem dX0_houseOfStars_29 : decode cX0_houseOfStars 29 = .ok (.ireturn, 1) := by decide +kernel
theorem dX0_anyGreen_0 : decode cX0_anyGreen 0 = .ok (.aload_n 0, 1) := by decide +kernel
theorem dX0_anyGreen_1 : decode cX0_anyGreen 1 = .ok (.getfield 21, 3) := by decide +kernel
theorem dX0_anyGreen_4 : decode cX0_anyGreen 4 = .ok (.iload_n 1, 1) := by decide +kernel
theorem dX0_anyGreen_5 : decode cX0_anyGreen 5 = .ok (.iaload, 1) := by decide +kernel
theorem dX0_anyGreen_6 : decode cX0_anyGreen 6 = .ok (.invokestatic 56, 3) := by decide +kernel
theorem dX0_anyGreen_9 : decode cX0_anyGreen 9 = .ok (.aload_n 0, 1) := by decide +kernel
theorem dX0_anyGreen_10 : decode cX0_anyGreen 10 = .ok (.getfield 21, 3) := by decide +kernel
theorem dX0_anyGreen_13 : decode cX0_anyGreen 13 = .ok (.iload_n 2, 1) := by decide +kernel
theorem dX0_anyGreen_14 : decode cX0_anyGreen 14 = .ok (.iaload, 1) := by decide +kernel
theorem dX0_anyGreen_15 : decode cX0_anyGreen 15 = .ok (.invokestatic 56, 3) := by decide +kernel
theorem dX0_anyGreen_18 : decode cX0_anyGreen 18 = .ok (.iadd, 1) := by decide +kernel
theorem dX0_anyGreen_19 : decode cX0_anyGreen 19 = .ok (.ifCond .le 7, 3) := by decide +kernel
theorem dX0_anyGreen_22 : decode cX0_anyGreen 22 = .ok (.iconst 1, 1) := by decide +kernel
theorem dX0_anyGreen_23 : decode cX0_anyGreen 23 = .ok (.goto 4, 3) := by decide +kernel
theorem dX0_anyGreen_26 : decode cX0_anyGreen 26 = .ok (.iconst 0, 1) := by decide +kernel
theorem dX0_anyGreen_27 : decode cX0_anyGreen 27 = .ok (.ireturn, 1) := by decide +kernel
theorem dX0_readAs_0 : decode cX0_readAs 0 = .ok (.aload_n 0, 1) := by decide +kernel
theorem dX0_readAs_1 : decode cX0_readAs 1 = .ok (.getfield 15, 3) := by decide +kernel
theorem dX0_readAs_4 : decode cX0_readAs 4 = .ok (.iload_n 1, 1) := by decide +kernel
theorem dX0_readAs_5 : decode cX0_readAs 5 = .ok (.iaload, 1) := by decide +kernel
theorem dX0_readAs_6 : decode cX0_readAs 6 = .ok (.iconst 2, 1) := by decide +kernel
theorem dX0_readAs_7 : decode cX0_readAs 7 = .ok (.if_icmp .le 5, 3) := by decide +kernel
theorem dX0_readAs_10 : decode cX0_readAs 10 = .ok (.iload_n 1, 1) := by decide +kernel
theorem dX0_readAs_11 : decode cX0_readAs 11 = .ok (.ireturn, 1) := by decide +kernel
theorem dX0_readAs_12 : decode cX0_readAs 12 = .ok (.iload_n 1, 1) := by decide +kernel
theorem dX0_readAs_13 : decode cX0_readAs 13 = .ok (.istore_n 2, 1) := by decide +kernel
theorem dX0_readAs_14 : decode cX0_readAs 14 = .ok (.iconst 0, 1) := by decide +kernel
theorem dX0_readAs_15 : decode cX0_readAs 15 = .ok (.istore_n 3, 1) := by decide +kernel
theorem dX0_readAs_16 : decode cX0_readAs 16 = .ok (.iload_n 3, 1) := by decide +kernel
theorem dX0_readAs_17 : decode cX0_readAs 17 = .ok (.aload_n 0, 1) := by decide +kernel
theorem dX0_readAs_18 : decode cX0_readAs 18 = .ok (.getfield 43, 3) := by decide +kernel
theorem dX0_readAs_21 : decode cX0_readAs 21 = .ok (.if_icmp .ge 46, 3) := by decide +kernel
theorem dX0_readAs_24 : decode cX0_readAs 24 = .ok (.aload_n 0, 1) := by decide +kernel
theorem dX0_readAs_25 : decode cX0_readAs 25 = .ok (.getfield 9, 3) := by decide +kernel
theorem dX0_readAs_28 : decode cX0_readAs 28 = .ok (.iload_n 3, 1) := by decide +kernel
theorem dX0_readAs_29 : decode cX0_readAs 29 = .ok (.iaload, 1) := by decide +kernel
theorem dX0_readAs_30 : decode cX0_readAs 30 = .ok (.aload_n 0, 1) := by decide +kernel
theorem dX0_readAs_31 : decode cX0_readAs 31 = .ok (.getfield 9, 3) := by decide +kernel
theorem dX0_readAs_34 : decode cX0_readAs 34 = .ok (.iload_n 1, 1) := by decide +kernel
theorem dX0_readAs_35 : decode cX0_readAs 35 = .ok (.iaload, 1) := by decide +kernel
theorem dX0_readAs_36 : decode cX0_readAs 36 = .ok (.if_icmp .le 25, 3) := by decide +kernel
theorem dX0_readAs_39 : decode cX0_readAs 39 = .ok (.iload_n 2, 1) := by decide +kernel
theorem dX0_readAs_40 : decode cX0_readAs 40 = .ok (.iload_n 1, 1) := by decide +kernel
theorem dX0_readAs_41 : decode cX0_readAs 41 = .ok (.if_icmp .eq 18, 3) := by decide +kernel
theorem dX0_readAs_44 : decode cX0_readAs 44 = .ok (.aload_n 0, 1) := by decide +kernel
theorem dX0_readAs_45 : decode cX0_readAs 45 = .ok (.getfield 9, 3) := by decide +kernel
theorem dX0_readAs_48 : decode cX0_readAs 48 = .ok (.iload_n 3, 1) := by decide +kernel
theorem dX0_readAs_49 : decode cX0_readAs 49 = .ok (.iaload, 1) := by decide +kernel
theorem dX0_readAs_50 : decode cX0_readAs 50 = .ok (.aload_n 0, 1) := by decide +kernel
theorem dX0_readAs_51 : decode cX0_readAs 51 = .ok (.getfield 9, 3) := by decide +kernel
theorem dX0_readAs_54 : decode cX0_readAs 54 = .ok (.iload_n 2, 1) := by decide +kernel
theorem dX0_readAs_55 : decode cX0_readAs 55 = .ok (.iaload, 1) := by decide +kernel
theorem dX0_readAs_56 : decode cX0_readAs 56 = .ok (.if_icmp .ge 5, 3) := by decide +kernel
theorem dX0_readAs_59 : decode cX0_readAs 59 = .ok (.iload_n 3, 1) := by decide +kernel
theorem dX0_readAs_60 : decode cX0_readAs 60 = .ok (.istore_n 2, 1) := by decide +kernel
theorem dX0_readAs_61 : decode cX0_readAs 61 = .ok (.iinc 3 1, 3) := by decide +kernel
theorem dX0_readAs_64 : decode cX0_readAs 64 = .ok (.goto (-48), 3) := by decide +kernel
theorem dX0_readAs_67 : decode cX0_readAs 67 = .ok (.iload_n 2, 1) := by decide +kernel
theorem dX0_readAs_68 : decode cX0_readAs 68 = .ok (.ireturn, 1) := by decide +kernel
theorem dX1_init_0 : decode cX1_init 0 = .ok (.aload_n 0, 1) := by decide +kernel
theorem dX1_init_1 : decode cX1_init 1 = .ok (.invokespecial 3, 3) := by decide +kernel
theorem dX1_init_4 : decode cX1_init 4 = .ok (.aload_n 0, 1) := by decide +kernel
theorem dX1_init_5 : decode cX1_init 5 = .ok (.bipush 15, 2) := by decide +kernel
theorem dX1_init_7 : decode cX1_init 7 = .ok (.newarray .int, 2) := by decide +kernel
theorem dX1_init_9 : decode cX1_init 9 = .ok (.putfield 9, 3) := by decide +kernel
theorem dX1_init_12 : decode cX1_init 12 = .ok (.aload_n 0, 1) := by decide +kernel
theorem dX1_init_13 : decode cX1_init 13 = .ok (.bipush 15, 2) := by decide +kernel
theorem dX1_init_15 : decode cX1_init 15 = .ok (.newarray .int, 2) := by decide +kernel
theorem dX1_init_17 : decode cX1_init 17 = .ok (.putfield 15, 3) := by decide +kernel
theorem dX1_init_20 : decode cX1_init 20 = .ok (.aload_n 0, 1) := by decide +kernel
theorem dX1_init_21 : decode cX1_init 21 = .ok (.bipush 15, 2) := by decide +kernel
theorem dX1_init_23 : decode cX1_init 23 = .ok (.newarray .boolean, 2) := by decide +kernel
theorem dX1_init_25 : decode cX1_init 25 = .ok (.putfield 18, 3) := by decide +kernel
theorem dX1_init_28 : decode cX1_init 28 = .ok (.return_, 1) := by decide +kernel
theorem dX1_add_0 : decode cX1_add 0 = .ok (.aload_n 0, 1) := by decide +kernel
theorem dX1_add_1 : decode cX1_add 1 = .ok (.getfield 22, 3) := by decide +kernel
theorem dX1_add_4 : decode cX1_add 4 = .ok (.bipush 15, 2) := by decide +kernel
theorem dX1_add_6 : decode cX1_add 6 = .ok (.if_icmp .lt 4, 3) := by decide +kernel
theorem dX1_add_9 : decode cX1_add 9 = .ok (.return_, 1) := by decide +kernel
theorem dX1_add_10 : decode cX1_add 10 = .ok (.aload_n 0, 1) := by decide +kernel
theorem dX1_add_11 : decode cX1_add 11 = .ok (.getfield 9, 3) := by decide +kernel
theorem dX1_add_14 : decode cX1_add 14 = .ok (.aload_n 0, 1) := by decide +kernel
theorem dX1_add_15 : decode cX1_add 15 = .ok (.getfield 22, 3) := by decide +kernel
theorem dX1_add_18 : decode cX1_add 18 = .ok (.iload_n 1, 1) := by decide +kernel
theorem dX1_add_19 : decode cX1_add 19 = .ok (.iastore, 1) := by decide +kernel
theorem dX1_add_20 : decode cX1_add 20 = .ok (.aload_n 0, 1) := by decide +kernel
theorem dX1_add_21 : decode cX1_add 21 = .ok (.getfield 15, 3) := by decide +kernel
theorem dX1_add_24 : decode cX1_add 24 = .ok (.aload_n 0, 1) := by decide +kernel
theorem dX1_add_25 : decode cX1_add 25 = .ok (.getfield 22, 3) := by decide +kernel
theorem dX1_add_28 : decode cX1_add 28 = .ok (.iload_n 2, 1) := by decide +kernel
theorem dX1_add_29 : decode cX1_add 29 = .ok (.iastore, 1) := by decide +kernel
theorem dX1_add_30 : decode cX1_add 30 = .ok (.aload_n 0, 1) := by decide +kernel
theorem dX1_add_31 : decode cX1_add 31 = .ok (.getfield 18, 3) := by decide +kernel
theorem dX1_add_34 : decode cX1_add 34 = .ok (.aload_n 0, 1) := by decide +kernel
theorem dX1_add_35 : decode cX1_add 35 = .ok (.getfield 22, 3) := by decide +kernel
theorem dX1_add_38 : decode cX1_add 38 = .ok (.iload_n 3, 1) := by decide +kernel
theorem dX1_add_39 : decode cX1_add 39 = .ok (.bastore, 1) := by decide +kernel
theorem dX1_add_40 : decode cX1_add 40 = .ok (.aload_n 0, 1) := by decide +kernel
theorem dX1_add_41 : decode cX1_add 41 = .ok (.dup, 1) := by decide +kernel
theorem dX1_add_42 : decode cX1_add 42 = .ok (.getfield 22, 3) := by decide +kernel
theorem dX1_add_45 : decode cX1_add 45 = .ok (.iconst 1, 1) := by decide +kernel
theorem dX1_add_46 : decode cX1_add 46 = .ok (.iadd, 1) := by decide +kernel
theorem dX1_add_47 : decode cX1_add 47 = .ok (.putfield 22, 3) := by decide +kernel
theorem dX1_add_50 : decode cX1_add 50 = .ok (.return_, 1) := by decide +kernel
theorem dX1_firstWrong_0 : decode cX1_firstWrong 0 = .ok (.iconst 0, 1) := by decide +kernel
theorem dX1_firstWrong_1 : decode cX1_firstWrong 1 = .ok (.istore_n 2, 1) := by decide +kernel
theorem dX1_firstWrong_2 : decode cX1_firstWrong 2 = .ok (.iload_n 2, 1) := by decide +kernel
theorem dX1_firstWrong_3 : decode cX1_firstWrong 3 = .ok (.aload_n 0, 1) := by decide +kernel
theorem dX1_firstWrong_4 : decode cX1_firstWrong 4 = .ok (.getfield 22, 3) := by decide +kernel
theorem dX1_firstWrong_7 : decode cX1_firstWrong 7 = .ok (.if_icmp .ge 36, 3) := by decide +kernel
theorem dX1_firstWrong_10 : decode cX1_firstWrong 10 = .ok (.aload_n 1, 1) := by decide +kernel
theorem dX1_firstWrong_11 : decode cX1_firstWrong 11 = .ok (.aload_n 0, 1) := by decide +kernel
theorem dX1_firstWrong_12 : decode cX1_firstWrong 12 = .ok (.getfield 9, 3) := by decide +kernel
theorem dX1_firstWrong_15 : decode cX1_firstWrong 15 = .ok (.iload_n 2, 1) := by decide +kernel
theorem dX1_firstWrong_16 : decode cX1_firstWrong 16 = .ok (.iaload, 1) := by decide +kernel
theorem dX1_firstWrong_17 : decode cX1_firstWrong 17 = .ok (.aload_n 0, 1) := by decide +kernel
theorem dX1_firstWrong_18 : decode cX1_firstWrong 18 = .ok (.getfield 15, 3) := by decide +kernel
theorem dX1_firstWrong_21 : decode cX1_firstWrong 21 = .ok (.iload_n 2, 1) := by decide +kernel
theorem dX1_firstWrong_22 : decode cX1_firstWrong 22 = .ok (.iaload, 1) := by decide +kernel
theorem dX1_firstWrong_23 : decode cX1_firstWrong 23 = .ok (.invokevirtual 26, 3) := by decide +kernel
theorem dX1_firstWrong_26 : decode cX1_firstWrong 26 = .ok (.aload_n 0, 1) := by decide +kernel
theorem dX1_firstWrong_27 : decode cX1_firstWrong 27 = .ok (.getfield 18, 3) := by decide +kernel
theorem dX1_firstWrong_30 : decode cX1_firstWrong 30 = .ok (.iload_n 2, 1) := by decide +kernel
theorem dX1_firstWrong_31 : decode cX1_firstWrong 31 = .ok (.baload, 1) := by decide +kernel
theorem dX1_firstWrong_32 : decode cX1_firstWrong 32 = .ok (.if_icmp .eq 5, 3) := by decide +kernel
theorem dX1_firstWrong_35 : decode cX1_firstWrong 35 = .ok (.iload_n 2, 1) := by decide +kernel
theorem dX1_firstWrong_36 : decode cX1_firstWrong 36 = .ok (.ireturn, 1) := by decide +kernel
theorem dX1_firstWrong_37 : decode cX1_firstWrong 37 = .ok (.iinc 2 1, 3) := by decide +kernel
theorem dX1_firstWrong_40 : decode cX1_firstWrong 40 = .ok (.goto (-38), 3) := by decide +kernel
theorem dX1_firstWrong_43 : decode cX1_firstWrong 43 = .ok (.iconst (-1), 1) := by decide +kernel
theorem dX1_firstWrong_44 : decode cX1_firstWrong 44 = .ok (.ireturn, 1) := by decide +kernel
theorem dX2_init_0 : decode cX2_init 0 = .ok (.aload_n 0, 1) := by decide +kernel
theorem dX2_init_1 : decode cX2_init 1 = .ok (.invokespecial 3, 3) := by decide +kernel
theorem dX2_init_4 : decode cX2_init 4 = .ok (.aload_n 0, 1) := by decide +kernel
theorem dX2_init_5 : decode cX2_init 5 = .ok (.bipush 6, 2) := by decide +kernel
theorem dX2_init_7 : decode cX2_init 7 = .ok (.newarray .int, 2) := by decide +kernel
theorem dX2_init_9 : decode cX2_init 9 = .ok (.putfield 9, 3) := by decide +kernel
theorem dX2_init_12 : decode cX2_init 12 = .ok (.aload_n 0, 1) := by decide +kernel
theorem dX2_init_13 : decode cX2_init 13 = .ok (.bipush 6, 2) := by decide +kernel
theorem dX2_init_15 : decode cX2_init 15 = .ok (.newarray .int, 2) := by decide +kernel
theorem dX2_init_17 : decode cX2_init 17 = .ok (.putfield 15, 3) := by decide +kernel
theorem dX2_init_20 : decode cX2_init 20 = .ok (.return_, 1) := by decide +kernel
theorem dX2_add_0 : decode cX2_add 0 = .ok (.aload_n 0, 1) := by decide +kernel
theorem dX2_add_1 : decode cX2_add 1 = .ok (.getfield 18, 3) := by decide +kernel
theorem dX2_add_4 : decode cX2_add 4 = .ok (.bipush 6, 2) := by decide +kernel
theorem dX2_add_6 : decode cX2_add 6 = .ok (.if_icmp .lt 4, 3) := by decide +kernel
theorem dX2_add_9 : decode cX2_add 9 = .ok (.return_, 1) := by decide +kernel
theorem dX2_add_10 : decode cX2_add 10 = .ok (.aload_n 0, 1) := by decide +kernel
theorem dX2_add_11 : decode cX2_add 11 = .ok (.getfield 9, 3) := by decide +kernel
theorem dX2_add_14 : decode cX2_add 14 = .ok (.aload_n 0, 1) := by decide +kernel
theorem dX2_add_15 : decode cX2_add 15 = .ok (.getfield 18, 3) := by decide +kernel
theorem dX2_add_18 : decode cX2_add 18 = .ok (.iload_n 1, 1) := by decide +kernel
theorem dX2_add_19 : decode cX2_add 19 = .ok (.iastore, 1) := by decide +kernel
theorem dX2_add_20 : decode cX2_add 20 = .ok (.aload_n 0, 1) := by decide +kernel
theorem dX2_add_21 : decode cX2_add 21 = .ok (.getfield 15, 3) := by decide +kernel
theorem dX2_add_24 : decode cX2_add 24 = .ok (.aload_n 0, 1) := by decide +kernel
theorem dX2_add_25 : decode cX2_add 25 = .ok (.getfield 18, 3) := by decide +kernel
theorem dX2_add_28 : decode cX2_add 28 = .ok (.iload_n 2, 1) := by decide +kernel
theorem dX2_add_29 : decode cX2_add 29 = .ok (.iastore, 1) := by decide +kernel
theorem dX2_add_30 : decode cX2_add 30 = .ok (.aload_n 0, 1) := by decide +kernel
theorem dX2_add_31 : decode cX2_add 31 = .ok (.dup, 1) := by decide +kernel
theorem dX2_add_32 : decode cX2_add 32 = .ok (.getfield 18, 3) := by decide +kernel
theorem dX2_add_35 : decode cX2_add 35 = .ok (.iconst 1, 1) := by decide +kernel
theorem dX2_add_36 : decode cX2_add 36 = .ok (.iadd, 1) := by decide +kernel
theorem dX2_add_37 : decode cX2_add 37 = .ok (.putfield 18, 3) := by decide +kernel
theorem dX2_add_40 : decode cX2_add 40 = .ok (.return_, 1) := by decide +kernel
theorem dX2_ways_0 : decode cX2_ways 0 = .ok (.iconst 1, 1) := by decide +kernel
theorem dX2_ways_1 : decode cX2_ways 1 = .ok (.istore_n 3, 1) := by decide +kernel
theorem dX2_ways_2 : decode cX2_ways 2 = .ok (.iconst 0, 1) := by decide +kernel
theorem dX2_ways_3 : decode cX2_ways 3 = .ok (.istore 4, 2) := by decide +kernel
theorem dX2_ways_5 : decode cX2_ways 5 = .ok (.iload 4, 2) := by decide +kernel
theorem dX2_ways_7 : decode cX2_ways 7 = .ok (.aload_n 0, 1) := by decide +kernel
theorem dX2_ways_8 : decode cX2_ways 8 = .ok (.getfield 18, 3) := by decide +kernel
theorem dX2_ways_11 : decode cX2_ways 11 = .ok (.if_icmp .ge 42, 3) := by decide +kernel
theorem dX2_ways_14 : decode cX2_ways 14 = .ok (.aload_n 2, 1) := by decide +kernel
theorem dX2_ways_15 : decode cX2_ways 15 = .ok (.aload_n 1, 1) := by decide +kernel
theorem dX2_ways_16 : decode cX2_ways 16 = .ok (.aload_n 0, 1) := by decide +kernel
theorem dX2_ways_17 : decode cX2_ways 17 = .ok (.getfield 15, 3) := by decide +kernel
theorem dX2_ways_20 : decode cX2_ways 20 = .ok (.iload 4, 2) := by decide +kernel
theorem dX2_ways_22 : decode cX2_ways 22 = .ok (.iaload, 1) := by decide +kernel
theorem dX2_ways_23 : decode cX2_ways 23 = .ok (.invokevirtual 22, 3) := by decide +kernel
theorem dX2_ways_26 : decode cX2_ways 26 = .ok (.invokestatic 28, 3) := by decide +kernel
theorem dX2_ways_29 : decode cX2_ways 29 = .ok (.istore 5, 2) := by decide +kernel
theorem dX2_ways_31 : decode cX2_ways 31 = .ok (.iload_n 3, 1) := by decide +kernel
theorem dX2_ways_32 : decode cX2_ways 32 = .ok (.iconst 0, 1) := by decide +kernel
theorem dX2_ways_33 : decode cX2_ways 33 = .ok (.iload 5, 2) := by decide +kernel
theorem dX2_ways_35 : decode cX2_ways 35 = .ok (.aload_n 0, 1) := by decide +kernel
theorem dX2_ways_36 : decode cX2_ways 36 = .ok (.iload 4, 2) := by decide +kernel
theorem dX2_ways_38 : decode cX2_ways 38 = .ok (.invokevirtual 34, 3) := by decide +kernel
theorem dX2_ways_41 : decode cX2_ways 41 = .ok (.isub, 1) := by decide +kernel
theorem dX2_ways_42 : decode cX2_ways 42 = .ok (.invokestatic 37, 3) := by decide +kernel
theorem dX2_ways_45 : decode cX2_ways 45 = .ok (.imul, 1) := by decide +kernel
theorem dX2_ways_46 : decode cX2_ways 46 = .ok (.istore_n 3, 1) := by decide +kernel
theorem dX2_ways_47 : decode cX2_ways 47 = .ok (.iinc 4 1, 3) := by decide +kernel
theorem dX2_ways_50 : decode cX2_ways 50 = .ok (.goto (-45), 3) := by decide +kernel
theorem dX2_ways_53 : decode cX2_ways 53 = .ok (.iload_n 3, 1) := by decide +kernel
theorem dX2_ways_54 : decode cX2_ways 54 = .ok (.ireturn, 1) := by decide +kernel
theorem dX2_alikeAhead_0 : decode cX2_alikeAhead 0 = .ok (.iconst 0, 1) := by decide +kernel
theorem dX2_alikeAhead_1 : decode cX2_alikeAhead 1 = .ok (.istore_n 2, 1) := by decide +kernel
theorem dX2_alikeAhead_2 : decode cX2_alikeAhead 2 = .ok (.iconst 0, 1) := by decide +kernel
theorem dX2_alikeAhead_3 : decode cX2_alikeAhead 3 = .ok (.istore_n 3, 1) := by decide +kernel
theorem dX2_alikeAhead_4 : decode cX2_alikeAhead 4 = .ok (.iload_n 3, 1) := by decide +kernel
theorem dX2_alikeAhead_5 : decode cX2_alikeAhead 5 = .ok (.iload_n 1, 1) := by decide +kernel
theorem dX2_alikeAhead_6 : decode cX2_alikeAhead 6 = .ok (.if_icmp .ge 42, 3) := by decide +kernel
theorem dX2_alikeAhead_9 : decode cX2_alikeAhead 9 = .ok (.aload_n 0, 1) := by decide +kernel
theorem dX2_alikeAhead_10 : decode cX2_alikeAhead 10 = .ok (.getfield 9, 3) := by decide +kernel
theorem dX2_alikeAhead_13 : decode cX2_alikeAhead 13 = .ok (.iload_n 3, 1) := by decide +kernel
theorem dX2_alikeAhead_14 : decode cX2_alikeAhead 14 = .ok (.iaload, 1) := by decide +kernel
theorem dX2_alikeAhead_15 : decode cX2_alikeAhead 15 = .ok (.aload_n 0, 1) := by decide +kernel
theorem dX2_alikeAhead_16 : decode cX2_alikeAhead 16 = .ok (.getfield 9, 3) := by decide +kernel
theorem dX2_alikeAhead_19 : decode cX2_alikeAhead 19 = .ok (.iload_n 1, 1) := by decide +kernel
theorem dX2_alikeAhead_20 : decode cX2_alikeAhead 20 = .ok (.iaload, 1) := by decide +kernel
theorem dX2_alikeAhead_21 : decode cX2_alikeAhead 21 = .ok (.if_icmp .ne 21, 3) := by decide +kernel
theorem dX2_alikeAhead_24 : decode cX2_alikeAhead 24 = .ok (.aload_n 0, 1) := by decide +kernel
theorem dX2_alikeAhead_25 : decode cX2_alikeAhead 25 = .ok (.getfield 15, 3) := by decide +kernel
theorem dX2_alikeAhead_28 : decode cX2_alikeAhead 28 = .ok (.iload_n 3, 1) := by decide +kernel
theorem dX2_alikeAhead_29 : decode cX2_alikeAhead 29 = .ok (.iaload, 1) := by decide +kernel
theorem dX2_alikeAhead_30 : decode cX2_alikeAhead 30 = .ok (.aload_n 0, 1) := by decide +kernel
theorem dX2_alikeAhead_31 : decode cX2_alikeAhead 31 = .ok (.getfield 15, 3) := by decide +kernel
theorem dX2_alikeAhead_34 : decode cX2_alikeAhead 34 = .ok (.iload_n 1, 1) := by decide +kernel
theorem dX2_alikeAhead_35 : decode cX2_alikeAhead 35 = .ok (.iaload, 1) := by decide +kernel
theorem dX2_alikeAhead_36 : decode cX2_alikeAhead 36 = .ok (.if_icmp .ne 6, 3) := by decide +kernel
theorem dX2_alikeAhead_39 : decode cX2_alikeAhead 39 = .ok (.iinc 2 1, 3) := by decide +kernel
theorem dX2_alikeAhead_42 : decode cX2_alikeAhead 42 = .ok (.iinc 3 1, 3) := by decide +kernel
theorem dX2_alikeAhead_45 : decode cX2_alikeAhead 45 = .ok (.goto (-41), 3) := by decide +kernel
theorem dX2_alikeAhead_48 : decode cX2_alikeAhead 48 = .ok (.iload_n 2, 1) := by decide +kernel
theorem dX2_alikeAhead_49 : decode cX2_alikeAhead 49 = .ok (.ireturn, 1) := by decide +kernel
theorem dX3_init_0 : decode cX3_init 0 = .ok (.aload_n 0, 1) := by decide +kernel
theorem dX3_init_1 : decode cX3_init 1 = .ok (.invokespecial 3, 3) := by decide +kernel
theorem dX3_init_4 : decode cX3_init 4 = .ok (.aload_n 0, 1) := by decide +kernel
theorem dX3_init_5 : decode cX3_init 5 = .ok (.bipush 8, 2) := by decide +kernel
theorem dX3_init_7 : decode cX3_init 7 = .ok (.newarray .int, 2) := by decide +kernel
theorem dX3_init_9 : decode cX3_init 9 = .ok (.putfield 9, 3) := by decide +kernel
theorem dX3_init_12 : decode cX3_init 12 = .ok (.aload_n 0, 1) := by decide +kernel
theorem dX3_init_13 : decode cX3_init 13 = .ok (.bipush 8, 2) := by decide +kernel
theorem dX3_init_15 : decode cX3_init 15 = .ok (.newarray .int, 2) := by decide +kernel
theorem dX3_init_17 : decode cX3_init 17 = .ok (.putfield 15, 3) := by decide +kernel
theorem dX3_init_20 : decode cX3_init 20 = .ok (.aload_n 0, 1) := by decide +kernel
theorem dX3_init_21 : decode cX3_init 21 = .ok (.bipush 8, 2) := by decide +kernel
theorem dX3_init_23 : decode cX3_init 23 = .ok (.newarray .int, 2) := by decide +kernel
theorem dX3_init_25 : decode cX3_init 25 = .ok (.putfield 18, 3) := by decide +kernel
theorem dX3_init_28 : decode cX3_init 28 = .ok (.aload_n 0, 1) := by decide +kernel
theorem dX3_init_29 : decode cX3_init 29 = .ok (.bipush 8, 2) := by decide +kernel
theorem dX3_init_31 : decode cX3_init 31 = .ok (.newarray .int, 2) := by decide +kernel
theorem dX3_init_33 : decode cX3_init 33 = .ok (.putfield 21, 3) := by decide +kernel
theorem dX3_init_36 : decode cX3_init 36 = .ok (.return_, 1) := by decide +kernel
theorem dX3_begin_0 : decode cX3_begin 0 = .ok (.aload_n 0, 1) := by decide +kernel
theorem dX3_begin_1 : decode cX3_begin 1 = .ok (.iconst 0, 1) := by decide +kernel
theorem dX3_begin_2 : decode cX3_begin 2 = .ok (.putfield 24, 3) := by decide +kernel
theorem dX3_begin_5 : decode cX3_begin 5 = .ok (.aload_n 0, 1) := by decide +kernel
theorem dX3_begin_6 : decode cX3_begin 6 = .ok (.aload_n 1, 1) := by decide +kernel
theorem dX3_begin_7 : decode cX3_begin 7 = .ok (.getfield 28, 3) := by decide +kernel
theorem dX3_begin_10 : decode cX3_begin 10 = .ok (.putfield 33, 3) := by decide +kernel
theorem dX3_begin_13 : decode cX3_begin 13 = .ok (.aload_n 0, 1) := by decide +kernel
theorem dX3_begin_14 : decode cX3_begin 14 = .ok (.aload_n 1, 1) := by decide +kernel
theorem dX3_begin_15 : decode cX3_begin 15 = .ok (.getfield 36, 3) := by decide +kernel
theorem dX3_begin_18 : decode cX3_begin 18 = .ok (.putfield 39, 3) := by decide +kernel
theorem dX3_begin_21 : decode cX3_begin 21 = .ok (.aload_n 0, 1) := by decide +kernel
theorem dX3_begin_22 : decode cX3_begin 22 = .ok (.iconst 0, 1) := by decide +kernel
theorem dX3_begin_23 : decode cX3_begin 23 = .ok (.putfield 42, 3) := by decide +kernel
theorem dX3_begin_26 : decode cX3_begin 26 = .ok (.iconst 0, 1) := by decide +kernel
theorem dX3_begin_27 : decode cX3_begin 27 = .ok (.istore_n 2, 1) := by decide +kernel
theorem dX3_begin_28 : decode cX3_begin 28 = .ok (.iload_n 2, 1) := by decide +kernel
theorem dX3_begin_29 : decode cX3_begin 29 = .ok (.bipush 8, 2) := by decide +kernel
theorem dX3_begin_31 : decode cX3_begin 31 = .ok (.if_icmp .ge 54, 3) := by decide +kernel
theorem dX3_begin_34 : decode cX3_begin 34 = .ok (.aload_n 0, 1) := by decide +kernel
theorem dX3_begin_35 : decode cX3_begin 35 = .ok (.getfield 9, 3) := by decide +kernel
theorem dX3_begin_38 : decode cX3_begin 38 = .ok (.iload_n 2, 1) := by decide +kernel
theorem dX3_begin_39 : decode cX3_begin 39 = .ok (.iload_n 2, 1) := by decide +kernel
theorem dX3_begin_40 : decode cX3_begin 40 = .ok (.aload_n 1, 1) := by decide +kernel
theorem dX3_begin_41 : decode cX3_begin 41 = .ok (.getfield 45, 3) := by decide +kernel
theorem dX3_begin_44 : decode cX3_begin 44 = .ok (.if_icmp .ge 12, 3) := by decide +kernel
theorem dX3_begin_47 : decode cX3_begin 47 = .ok (.aload_n 1, 1) := by decide +kernel
theorem dX3_begin_48 : decode cX3_begin 48 = .ok (.getfield 48, 3) := by decide +kernel
theorem dX3_begin_51 : decode cX3_begin 51 = .ok (.iload_n 2, 1) := by decide +kernel
theorem dX3_begin_52 : decode cX3_begin 52 = .ok (.iaload, 1) := by decide +kernel
theorem dX3_begin_53 : decode cX3_begin 53 = .ok (.goto 4, 3) := by decide +kernel
theorem dX3_begin_56 : decode cX3_begin 56 = .ok (.iconst 0, 1) := by decide +kernel
theorem dX3_begin_57 : decode cX3_begin 57 = .ok (.iastore, 1) := by decide +kernel
theorem dX3_begin_58 : decode cX3_begin 58 = .ok (.aload_n 0, 1) := by decide +kernel
theorem dX3_begin_59 : decode cX3_begin 59 = .ok (.getfield 15, 3) := by decide +kernel
theorem dX3_begin_62 : decode cX3_begin 62 = .ok (.iload_n 2, 1) := by decide +kernel
theorem dX3_begin_63 : decode cX3_begin 63 = .ok (.iconst (-1), 1) := by decide +kernel
theorem dX3_begin_64 : decode cX3_begin 64 = .ok (.iastore, 1) := by decide +kernel
theorem dX3_begin_65 : decode cX3_begin 65 = .ok (.aload_n 0, 1) := by decide +kernel
theorem dX3_begin_66 : decode cX3_begin 66 = .ok (.getfield 18, 3) := by decide +kernel
theorem dX3_begin_69 : decode cX3_begin 69 = .ok (.iload_n 2, 1) := by decide +kernel
theorem dX3_begin_70 : decode cX3_begin 70 = .ok (.iconst (-1), 1) := by decide +kernel
theorem dX3_begin_71 : decode cX3_begin 71 = .ok (.iastore, 1) := by decide +kernel
theorem dX3_begin_72 : decode cX3_begin 72 = .ok (.aload_n 0, 1) := by decide +kernel
theorem dX3_begin_73 : decode cX3_begin 73 = .ok (.getfield 21, 3) := by decide +kernel
theorem dX3_begin_76 : decode cX3_begin 76 = .ok (.iload_n 2, 1) := by decide +kernel
theorem dX3_begin_77 : decode cX3_begin 77 = .ok (.iconst 0, 1) := by decide +kernel
theorem dX3_begin_78 : decode cX3_begin 78 = .ok (.iastore, 1) := by decide +kernel
theorem dX3_begin_79 : decode cX3_begin 79 = .ok (.iinc 2 1, 3) := by decide +kernel
theorem dX3_begin_82 : decode cX3_begin 82 = .ok (.goto (-54), 3) := by decide +kernel
theorem dX3_begin_85 : decode cX3_begin 85 = .ok (.return_, 1) := by decide +kernel
theorem dX3_become_0 : decode cX3_become 0 = .ok (.aload_n 0, 1) := by decide +kernel
theorem dX3_become_1 : decode cX3_become 1 = .ok (.aload_n 1, 1) := by decide +kernel
theorem dX3_become_2 : decode cX3_become 2 = .ok (.getfield 24, 3) := by decide +kernel
theorem dX3_become_5 : decode cX3_become 5 = .ok (.putfield 24, 3) := by decide +kernel
theorem dX3_become_8 : decode cX3_become 8 = .ok (.aload_n 0, 1) := by decide +kernel
theorem dX3_become_9 : decode cX3_become 9 = .ok (.aload_n 1, 1) := by decide +kernel
theorem dX3_become_10 : decode cX3_become 10 = .ok (.getfield 33, 3) := by decide +kernel
theorem dX3_become_13 : decode cX3_become 13 = .ok (.putfield 33, 3) := by decide +kernel
theorem dX3_become_16 : decode cX3_become 16 = .ok (.aload_n 0, 1) := by decide +kernel
theorem dX3_become_17 : decode cX3_become 17 = .ok (.aload_n 1, 1) := by decide +kernel
theorem dX3_become_18 : decode cX3_become 18 = .ok (.getfield 39, 3) := by decide +kernel
theorem dX3_become_21 : decode cX3_become 21 = .ok (.putfield 39, 3) := by decide +kernel
theorem dX3_become_24 : decode cX3_become 24 = .ok (.aload_n 0, 1) := by decide +kernel
theorem dX3_become_25 : decode cX3_become 25 = .ok (.aload_n 1, 1) := by decide +kernel
theorem dX3_become_26 : decode cX3_become 26 = .ok (.getfield 42, 3) := by decide +kernel
theorem dX3_become_29 : decode cX3_become 29 = .ok (.putfield 42, 3) := by decide +kernel
theorem dX3_become_32 : decode cX3_become 32 = .ok (.iconst 0, 1) := by decide +kernel
theorem dX3_become_33 : decode cX3_become 33 = .ok (.istore_n 2, 1) := by decide +kernel
theorem dX3_become_34 : decode cX3_become 34 = .ok (.iload_n 2, 1) := by decide +kernel
theorem dX3_become_35 : decode cX3_become 35 = .ok (.bipush 8, 2) := by decide +kernel
theorem dX3_become_37 : decode cX3_become 37 = .ok (.if_icmp .ge 27, 3) := by decide +kernel
theorem dX3_become_40 : decode cX3_become 40 = .ok (.aload_n 0, 1) := by decide +kernel
theorem dX3_become_41 : decode cX3_become 41 = .ok (.getfield 9, 3) := by decide +kernel
theorem dX3_become_44 : decode cX3_become 44 = .ok (.iload_n 2, 1) := by decide +kernel
theorem dX3_become_45 : decode cX3_become 45 = .ok (.aload_n 1, 1) := by decide +kernel
theorem dX3_become_46 : decode cX3_become 46 = .ok (.getfield 9, 3) := by decide +kernel
theorem dX3_become_49 : decode cX3_become 49 = .ok (.iload_n 2, 1) := by decide +kernel
theorem dX3_become_50 : decode cX3_become 50 = .ok (.iaload, 1) := by decide +kernel
theorem dX3_become_51 : decode cX3_become 51 = .ok (.iastore, 1) := by decide +kernel
theorem dX3_become_52 : decode cX3_become 52 = .ok (.aload_n 0, 1) := by decide +kernel
theorem dX3_become_53 : decode cX3_become 53 = .ok (.iload_n 2, 1) := by decide +kernel
theorem dX3_become_54 : decode cX3_become 54 = .ok (.aload_n 1, 1) := by decide +kernel
theorem dX3_become_55 : decode cX3_become 55 = .ok (.invokevirtual 51, 3) := by decide +kernel
theorem dX3_become_58 : decode cX3_become 58 = .ok (.iinc 2 1, 3) := by decide +kernel
theorem dX3_become_61 : decode cX3_become 61 = .ok (.goto (-27), 3) := by decide +kernel
theorem dX3_become_64 : decode cX3_become 64 = .ok (.return_, 1) := by decide +kernel
theorem dX3_signedAs_0 : decode cX3_signedAs 0 = .ok (.aload_n 0, 1) := by decide +kernel
theorem dX3_signedAs_1 : decode cX3_signedAs 1 = .ok (.getfield 15, 3) := by decide +kernel
theorem dX3_signedAs_4 : decode cX3_signedAs 4 = .ok (.iload_n 1, 1) := by decide +kernel
theorem dX3_signedAs_5 : decode cX3_signedAs 5 = .ok (.aload_n 2, 1) := by decide +kernel
theorem dX3_signedAs_6 : decode cX3_signedAs 6 = .ok (.getfield 15, 3) := by decide +kernel
theorem dX3_signedAs_9 : decode cX3_signedAs 9 = .ok (.iload_n 1, 1) := by decide +kernel
theorem dX3_signedAs_10 : decode cX3_signedAs 10 = .ok (.iaload, 1) := by decide +kernel
theorem dX3_signedAs_11 : decode cX3_signedAs 11 = .ok (.iastore, 1) := by decide +kernel
theorem dX3_signedAs_12 : decode cX3_signedAs 12 = .ok (.aload_n 0, 1) := by decide +kernel
theorem dX3_signedAs_13 : decode cX3_signedAs 13 = .ok (.getfield 18, 3) := by decide +kernel
theorem dX3_signedAs_16 : decode cX3_signedAs 16 = .ok (.iload_n 1, 1) := by decide +kernel
theorem dX3_signedAs_17 : decode cX3_signedAs 17 = .ok (.aload_n 2, 1) := by decide +kernel
theorem dX3_signedAs_18 : decode cX3_signedAs 18 = .ok (.getfield 18, 3) := by decide +kernel
theorem dX3_signedAs_21 : decode cX3_signedAs 21 = .ok (.iload_n 1, 1) := by decide +kernel
theorem dX3_signedAs_22 : decode cX3_signedAs 22 = .ok (.iaload, 1) := by decide +kernel
theorem dX3_signedAs_23 : decode cX3_signedAs 23 = .ok (.iastore, 1) := by decide +kernel
theorem dX3_signedAs_24 : decode cX3_signedAs 24 = .ok (.aload_n 0, 1) := by decide +kernel
theorem dX3_signedAs_25 : decode cX3_signedAs 25 = .ok (.getfield 21, 3) := by decide +kernel
theorem dX3_signedAs_28 : decode cX3_signedAs 28 = .ok (.iload_n 1, 1) := by decide +kernel
theorem dX3_signedAs_29 : decode cX3_signedAs 29 = .ok (.aload_n 2, 1) := by decide +kernel
theorem dX3_signedAs_30 : decode cX3_signedAs 30 = .ok (.getfield 21, 3) := by decide +kernel
theorem dX3_signedAs_33 : decode cX3_signedAs 33 = .ok (.iload_n 1, 1) := by decide +kernel
theorem dX3_signedAs_34 : decode cX3_signedAs 34 = .ok (.iaload, 1) := by decide +kernel
theorem dX3_signedAs_35 : decode cX3_signedAs 35 = .ok (.iastore, 1) := by decide +kernel
theorem dX3_signedAs_36 : decode cX3_signedAs 36 = .ok (.return_, 1) := by decide +kernel
theorem dX3_cellOver_0 : decode cX3_cellOver 0 = .ok (.iconst 0, 1) := by decide +kernel
theorem dX3_cellOver_1 : decode cX3_cellOver 1 = .ok (.aload_n 1, 1) := by decide +kernel
theorem dX3_cellOver_2 : decode cX3_cellOver 2 = .ok (.getfield 55, 3) := by decide +kernel
theorem dX3_cellOver_5 : decode cX3_cellOver 5 = .ok (.iconst 1, 1) := by decide +kernel
theorem dX3_cellOver_6 : decode cX3_cellOver 6 = .ok (.isub, 1) := by decide +kernel
theorem dX3_cellOver_7 : decode cX3_cellOver 7 = .ok (.aload_n 1, 1) := by decide +kernel
theorem dX3_cellOver_8 : decode cX3_cellOver 8 = .ok (.getfield 58, 3) := by decide +kernel
theorem dX3_cellOver_11 : decode cX3_cellOver 11 = .ok (.iload_n 2, 1) := by decide +kernel
theorem dX3_cellOver_12 : decode cX3_cellOver 12 = .ok (.iaload, 1) := by decide +kernel
theorem dX3_cellOver_13 : decode cX3_cellOver 13 = .ok (.aload_n 0, 1) := by decide +kernel
theorem dX3_cellOver_14 : decode cX3_cellOver 14 = .ok (.getfield 39, 3) := by decide +kernel
theorem dX3_cellOver_17 : decode cX3_cellOver 17 = .ok (.iadd, 1) := by decide +kernel
theorem dX3_cellOver_18 : decode cX3_cellOver 18 = .ok (.invokestatic 61, 3) := by decide +kernel
theorem dX3_cellOver_21 : decode cX3_cellOver 21 = .ok (.invokestatic 67, 3) := by decide +kernel
theorem dX3_cellOver_24 : decode cX3_cellOver 24 = .ok (.ireturn, 1) := by decide +kernel
theorem dX3_housesOver_0 : decode cX3_housesOver 0 = .ok (.iconst 0, 1) := by decide +kernel
theorem dX3_housesOver_1 : decode cX3_housesOver 1 = .ok (.istore_n 3, 1) := by decide +kernel
theorem dX3_housesOver_2 : decode cX3_housesOver 2 = .ok (.iconst 0, 1) := by decide +kernel
theorem dX3_housesOver_3 : decode cX3_housesOver 3 = .ok (.istore 4, 2) := by decide +kernel
theorem dX3_housesOver_5 : decode cX3_housesOver 5 = .ok (.iload 4, 2) := by decide +kernel
theorem dX3_housesOver_7 : decode cX3_housesOver 7 = .ok (.aload_n 1, 1) := by decide +kernel
theorem dX3_housesOver_8 : decode cX3_housesOver 8 = .ok (.getfield 45, 3) := by decide +kernel
theorem dX3_housesOver_11 : decode cX3_housesOver 11 = .ok (.if_icmp .ge 27, 3) := by decide +kernel
theorem dX3_housesOver_14 : decode cX3_housesOver 14 = .ok (.aload_n 0, 1) := by decide +kernel
theorem dX3_housesOver_15 : decode cX3_housesOver 15 = .ok (.aload_n 1, 1) := by decide +kernel
theorem dX3_housesOver_16 : decode cX3_housesOver 16 = .ok (.iload 4, 2) := by decide +kernel
theorem dX3_housesOver_18 : decode cX3_housesOver 18 = .ok (.invokevirtual 70, 3) := by decide +kernel
theorem dX3_housesOver_21 : decode cX3_housesOver 21 = .ok (.iload_n 2, 1) := by decide +kernel
theorem dX3_housesOver_22 : decode cX3_housesOver 22 = .ok (.if_icmp .ne 10, 3) := by decide +kernel
theorem dX3_housesOver_25 : decode cX3_housesOver 25 = .ok (.iload_n 3, 1) := by decide +kernel
theorem dX3_housesOver_26 : decode cX3_housesOver 26 = .ok (.iconst 1, 1) := by decide +kernel
theorem dX3_housesOver_27 : decode cX3_housesOver 27 = .ok (.iload 4, 2) := by decide +kernel
theorem dX3_housesOver_29 : decode cX3_housesOver 29 = .ok (.ishl, 1) := by decide +kernel
theorem dX3_housesOver_30 : decode cX3_housesOver 30 = .ok (.ior, 1) := by decide +kernel
theorem dX3_housesOver_31 : decode cX3_housesOver 31 = .ok (.istore_n 3, 1) := by decide +kernel
theorem dX3_housesOver_32 : decode cX3_housesOver 32 = .ok (.iinc 4 1, 3) := by decide +kernel
theorem dX3_housesOver_35 : decode cX3_housesOver 35 = .ok (.goto (-30), 3) := by decide +kernel
theorem dX3_housesOver_38 : decode cX3_housesOver 38 = .ok (.iload_n 3, 1) := by decide +kernel
theorem dX3_housesOver_39 : decode cX3_housesOver 39 = .ok (.ireturn, 1) := by decide +kernel
theorem dX3_reach_0 : decode cX3_reach 0 = .ok (.aload_n 1, 1) := by decide +kernel
theorem dX3_reach_1 : decode cX3_reach 1 = .ok (.getfield 74, 3) := by decide +kernel
theorem dX3_reach_4 : decode cX3_reach 4 = .ok (.iload_n 2, 1) := by decide +kernel
theorem dX3_reach_5 : decode cX3_reach 5 = .ok (.iaload, 1) := by decide +kernel
theorem dX3_reach_6 : decode cX3_reach 6 = .ok (.iconst 3, 1) := by decide +kernel
theorem dX3_reach_7 : decode cX3_reach 7 = .ok (.iadd, 1) := by decide +kernel
theorem dX3_reach_8 : decode cX3_reach 8 = .ok (.aload_n 0, 1) := by decide +kernel
theorem dX3_reach_9 : decode cX3_reach 9 = .ok (.getfield 33, 3) := by decide +kernel
theorem dX3_reach_12 : decode cX3_reach 12 = .ok (.iconst 2, 1) := by decide +kernel
theorem dX3_reach_13 : decode cX3_reach 13 = .ok (.idiv, 1) := by decide +kernel
theorem dX3_reach_14 : decode cX3_reach 14 = .ok (.isub, 1) := by decide +kernel
theorem dX3_reach_15 : decode cX3_reach 15 = .ok (.ireturn, 1) := by decide +kernel
theorem dX3_inReach_0 : decode cX3_inReach 0 = .ok (.aload_n 0, 1) := by decide +kernel
theorem dX3_inReach_1 : decode cX3_inReach 1 = .ok (.aload_n 1, 1) := by decide +kernel
theorem dX3_inReach_2 : decode cX3_inReach 2 = .ok (.iload_n 2, 1) := by decide +kernel
theorem dX3_inReach_3 : decode cX3_inReach 3 = .ok (.invokevirtual 70, 3) := by decide +kernel
theorem dX3_inReach_6 : decode cX3_inReach 6 = .ok (.istore_n 3, 1) := by decide +kernel
theorem dX3_inReach_7 : decode cX3_inReach 7 = .ok (.aload_n 0, 1) := by decide +kernel
theorem dX3_inReach_8 : decode cX3_inReach 8 = .ok (.aload_n 1, 1) := by decide +kernel
theorem dX3_inReach_9 : decode cX3_inReach 9 = .ok (.iload_n 2, 1) := by decide +kernel
theorem dX3_inReach_10 : decode cX3_inReach 10 = .ok (.invokevirtual 77, 3) := by decide +kernel
theorem dX3_inReach_13 : decode cX3_inReach 13 = .ok (.istore 4, 2) := by decide +kernel
theorem dX3_inReach_15 : decode cX3_inReach 15 = .ok (.iconst 0, 1) := by decide +kernel
theorem dX3_inReach_16 : decode cX3_inReach 16 = .ok (.istore 5, 2) := by decide +kernel
theorem dX3_inReach_18 : decode cX3_inReach 18 = .ok (.iconst 0, 1) := by decide +kernel
theorem dX3_inReach_19 : decode cX3_inReach 19 = .ok (.istore 6, 2) := by decide +kernel
theorem dX3_inReach_21 : decode cX3_inReach 21 = .ok (.iload 6, 2) := by decide +kernel
theorem dX3_inReach_23 : decode cX3_inReach 23 = .ok (.aload_n 1, 1) := by decide +kernel
theorem dX3_inReach_24 : decode cX3_inReach 24 = .ok (.getfield 45, 3) := by decide +kernel
theorem dX3_inReach_27 : decode cX3_inReach 27 = .ok (.if_icmp .ge 41, 3) := by decide +kernel
theorem dX3_inReach_30 : decode cX3_inReach 30 = .ok (.iload 6, 2) := by decide +kernel
theorem dX3_inReach_32 : decode cX3_inReach 32 = .ok (.iload_n 2, 1) := by decide +kernel
theorem dX3_inReach_33 : decode cX3_inReach 33 = .ok (.if_icmp .eq 29, 3) := by decide +kernel
theorem dX3_inReach_36 : decode cX3_inReach 36 = .ok (.aload_n 1, 1) := by decide +kernel
theorem dX3_inReach_37 : decode cX3_inReach 37 = .ok (.getfield 58, 3) := by decide +kernel
theorem dX3_inReach_40 : decode cX3_inReach 40 = .ok (.iload 6, 2) := by decide +kernel
theorem dX3_inReach_42 : decode cX3_inReach 42 = .ok (.iaload, 1) := by decide +kernel
theorem dX3_inReach_43 : decode cX3_inReach 43 = .ok (.iload_n 3, 1) := by decide +kernel
theorem dX3_inReach_44 : decode cX3_inReach 44 = .ok (.isub, 1) := by decide +kernel
theorem dX3_inReach_45 : decode cX3_inReach 45 = .ok (.invokestatic 80, 3) := by decide +kernel
theorem dX3_inReach_48 : decode cX3_inReach 48 = .ok (.iload 4, 2) := by decide +kernel
theorem dX3_inReach_50 : decode cX3_inReach 50 = .ok (.if_icmp .gt 12, 3) := by decide +kernel
theorem dX3_inReach_53 : decode cX3_inReach 53 = .ok (.iload 5, 2) := by decide +kernel
theorem dX3_inReach_55 : decode cX3_inReach 55 = .ok (.iconst 1, 1) := by decide +kernel
theorem dX3_inReach_56 : decode cX3_inReach 56 = .ok (.iload 6, 2) := by decide +kernel
theorem dX3_inReach_58 : decode cX3_inReach 58 = .ok (.ishl, 1) := by decide +kernel
theorem dX3_inReach_59 : decode cX3_inReach 59 = .ok (.ior, 1) := by decide +kernel
theorem dX3_inReach_60 : decode cX3_inReach 60 = .ok (.istore 5, 2) := by decide +kernel
theorem dX3_inReach_62 : decode cX3_inReach 62 = .ok (.iinc 6 1, 3) := by decide +kernel
theorem dX3_inReach_65 : decode cX3_inReach 65 = .ok (.goto (-44), 3) := by decide +kernel
theorem dX3_inReach_68 : decode cX3_inReach 68 = .ok (.iload 5, 2) := by decide +kernel
theorem dX3_inReach_70 : decode cX3_inReach 70 = .ok (.ireturn, 1) := by decide +kernel
theorem dX3_hidden_0 : decode cX3_hidden 0 = .ok (.aload_n 0, 1) := by decide +kernel
theorem dX3_hidden_1 : decode cX3_hidden 1 = .ok (.aload_n 1, 1) := by decide +kernel
theorem dX3_hidden_2 : decode cX3_hidden 2 = .ok (.iload_n 2, 1) := by decide +kernel
theorem dX3_hidden_3 : decode cX3_hidden 3 = .ok (.invokevirtual 70, 3) := by decide +kernel
theorem dX3_hidden_6 : decode cX3_hidden 6 = .ok (.istore_n 3, 1) := by decide +kernel
theorem dX3_hidden_7 : decode cX3_hidden 7 = .ok (.iconst 0, 1) := by decide +kernel
theorem dX3_hidden_8 : decode cX3_hidden 8 = .ok (.istore 4, 2) := by decide +kernel
theorem dX3_hidden_10 : decode cX3_hidden 10 = .ok (.iload 4, 2) := by decide +kernel
theorem dX3_hidden_12 : decode cX3_hidden 12 = .ok (.aload_n 1, 1) := by decide +kernel
theorem dX3_hidden_13 : decode cX3_hidden 13 = .ok (.getfield 45, 3) := by decide +kernel
theorem dX3_hidden_16 : decode cX3_hidden 16 = .ok (.if_icmp .ge 70, 3) := by decide +kernel
theorem dX3_hidden_19 : decode cX3_hidden 19 = .ok (.iload 4, 2) := by decide +kernel
theorem dX3_hidden_21 : decode cX3_hidden 21 = .ok (.iload_n 2, 1) := by decide +kernel
theorem dX3_hidden_22 : decode cX3_hidden 22 = .ok (.if_icmp .eq 29, 3) := by decide +kernel
theorem dX3_hidden_25 : decode cX3_hidden 25 = .ok (.aload_n 0, 1) := by decide +kernel
theorem dX3_hidden_26 : decode cX3_hidden 26 = .ok (.getfield 15, 3) := by decide +kernel
theorem dX3_hidden_29 : decode cX3_hidden 29 = .ok (.iload 4, 2) := by decide +kernel
theorem dX3_hidden_31 : decode cX3_hidden 31 = .ok (.iaload, 1) := by decide +kernel
theorem dX3_hidden_32 : decode cX3_hidden 32 = .ok (.iconst (-1), 1) := by decide +kernel
theorem dX3_hidden_33 : decode cX3_hidden 33 = .ok (.if_icmp .eq 18, 3) := by decide +kernel
theorem dX3_hidden_36 : decode cX3_hidden 36 = .ok (.aload_n 0, 1) := by decide +kernel
theorem dX3_hidden_37 : decode cX3_hidden 37 = .ok (.getfield 18, 3) := by decide +kernel
theorem dX3_hidden_40 : decode cX3_hidden 40 = .ok (.iload 4, 2) := by decide +kernel
theorem dX3_hidden_42 : decode cX3_hidden 42 = .ok (.iaload, 1) := by decide +kernel
theorem dX3_hidden_43 : decode cX3_hidden 43 = .ok (.iload_n 3, 1) := by decide +kernel
theorem dX3_hidden_44 : decode cX3_hidden 44 = .ok (.if_icmp .ne 7, 3) := by decide +kernel
theorem dX3_hidden_47 : decode cX3_hidden 47 = .ok (.iconst 1, 1) := by decide +kernel
theorem dX3_hidden_48 : decode cX3_hidden 48 = .ok (.goto 4, 3) := by decide +kernel
theorem dX3_hidden_51 : decode cX3_hidden 51 = .ok (.iconst 0, 1) := by decide +kernel
theorem dX3_hidden_52 : decode cX3_hidden 52 = .ok (.istore 5, 2) := by decide +kernel
theorem dX3_hidden_54 : decode cX3_hidden 54 = .ok (.iload 5, 2) := by decide +kernel
theorem dX3_hidden_56 : decode cX3_hidden 56 = .ok (.ifCond .eq 24, 3) := by decide +kernel
theorem dX3_hidden_59 : decode cX3_hidden 59 = .ok (.aload_n 0, 1) := by decide +kernel
theorem dX3_hidden_60 : decode cX3_hidden 60 = .ok (.getfield 24, 3) := by decide +kernel
theorem dX3_hidden_63 : decode cX3_hidden 63 = .ok (.aload_n 0, 1) := by decide +kernel
theorem dX3_hidden_64 : decode cX3_hidden 64 = .ok (.getfield 15, 3) := by decide +kernel
theorem dX3_hidden_67 : decode cX3_hidden 67 = .ok (.iload 4, 2) := by decide +kernel
theorem dX3_hidden_69 : decode cX3_hidden 69 = .ok (.iaload, 1) := by decide +kernel
theorem dX3_hidden_70 : decode cX3_hidden 70 = .ok (.isub, 1) := by decide +kernel
theorem dX3_hidden_71 : decode cX3_hidden 71 = .ok (.aload_n 1, 1) := by decide +kernel
theorem dX3_hidden_72 : decode cX3_hidden 72 = .ok (.getfield 84, 3) := by decide +kernel
theorem dX3_hidden_75 : decode cX3_hidden 75 = .ok (.if_icmp .gt 5, 3) := by decide +kernel
theorem dX3_hidden_78 : decode cX3_hidden 78 = .ok (.iconst 1, 1) := by decide +kernel
theorem dX3_hidden_79 : decode cX3_hidden 79 = .ok (.ireturn, 1) := by decide +kernel
theorem dX3_hidden_80 : decode cX3_hidden 80 = .ok (.iinc 4 1, 3) := by decide +kernel
theorem dX3_hidden_83 : decode cX3_hidden 83 = .ok (.goto (-73), 3) := by decide +kernel
theorem dX3_hidden_86 : decode cX3_hidden 86 = .ok (.iconst 0, 1) := by decide +kernel
theorem dX3_hidden_87 : decode cX3_hidden 87 = .ok (.ireturn, 1) := by decide +kernel
theorem dX3_viewers_0 : decode cX3_viewers 0 = .ok (.aload_n 0, 1) := by decide +kernel
theorem dX3_viewers_1 : decode cX3_viewers 1 = .ok (.aload_n 1, 1) := by decide +kernel
theorem dX3_viewers_2 : decode cX3_viewers 2 = .ok (.iload_n 2, 1) := by decide +kernel
theorem dX3_viewers_3 : decode cX3_viewers 3 = .ok (.invokevirtual 87, 3) := by decide +kernel
theorem dX3_viewers_6 : decode cX3_viewers 6 = .ok (.ifCond .eq 7, 3) := by decide +kernel
theorem dX3_viewers_9 : decode cX3_viewers 9 = .ok (.iconst 0, 1) := by decide +kernel
theorem dX3_viewers_10 : decode cX3_viewers 10 = .ok (.goto 9, 3) := by decide +kernel
theorem dX3_viewers_13 : decode cX3_viewers 13 = .ok (.aload_n 0, 1) := by decide +kernel
theorem dX3_viewers_14 : decode cX3_viewers 14 = .ok (.aload_n 1, 1) := by decide +kernel
theorem dX3_viewers_15 : decode cX3_viewers 15 = .ok (.iload_n 2, 1) := by decide +kernel
theorem dX3_viewers_16 : decode cX3_viewers 16 = .ok (.invokevirtual 91, 3) := by decide +kernel
theorem dX3_viewers_19 : decode cX3_viewers 19 = .ok (.ireturn, 1) := by decide +kernel
theorem dX3_sign_0 : decode cX3_sign 0 = .ok (.aload_n 0, 1) := by decide +kernel
theorem dX3_sign_1 : decode cX3_sign 1 = .ok (.getfield 21, 3) := by decide +kernel
theorem dX3_sign_4 : decode cX3_sign 4 = .ok (.iload_n 2, 1) := by decide +kernel
theorem dX3_sign_5 : decode cX3_sign 5 = .ok (.aload_n 0, 1) := by decide +kernel
theorem dX3_sign_6 : decode cX3_sign 6 = .ok (.aload_n 1, 1) := by decide +kernel
theorem dX3_sign_7 : decode cX3_sign 7 = .ok (.iload_n 2, 1) := by decide +kernel
theorem dX3_sign_8 : decode cX3_sign 8 = .ok (.invokevirtual 94, 3) := by decide +kernel
theorem dX3_sign_11 : decode cX3_sign 11 = .ok (.iastore, 1) := by decide +kernel
theorem dX3_sign_12 : decode cX3_sign 12 = .ok (.aload_n 0, 1) := by decide +kernel
theorem dX3_sign_13 : decode cX3_sign 13 = .ok (.getfield 15, 3) := by decide +kernel
theorem dX3_sign_16 : decode cX3_sign 16 = .ok (.iload_n 2, 1) := by decide +kernel
theorem dX3_sign_17 : decode cX3_sign 17 = .ok (.aload_n 0, 1) := by decide +kernel
theorem dX3_sign_18 : decode cX3_sign 18 = .ok (.getfield 24, 3) := by decide +kernel
theorem dX3_sign_21 : decode cX3_sign 21 = .ok (.iastore, 1) := by decide +kernel
theorem dX3_sign_22 : decode cX3_sign 22 = .ok (.aload_n 0, 1) := by decide +kernel
theorem dX3_sign_23 : decode cX3_sign 23 = .ok (.getfield 18, 3) := by decide +kernel
theorem dX3_sign_26 : decode cX3_sign 26 = .ok (.iload_n 2, 1) := by decide +kernel
theorem dX3_sign_27 : decode cX3_sign 27 = .ok (.aload_n 0, 1) := by decide +kernel
theorem dX3_sign_28 : decode cX3_sign 28 = .ok (.aload_n 1, 1) := by decide +kernel
theorem dX3_sign_29 : decode cX3_sign 29 = .ok (.iload_n 2, 1) := by decide +kernel
theorem dX3_sign_30 : decode cX3_sign 30 = .ok (.invokevirtual 70, 3) := by decide +kernel
theorem dX3_sign_33 : decode cX3_sign 33 = .ok (.iastore, 1) := by decide +kernel
theorem dX3_sign_34 : decode cX3_sign 34 = .ok (.return_, 1) := by decide +kernel
theorem dX3_agree_0 : decode cX3_agree 0 = .ok (.aload_n 0, 1) := by decide +kernel
theorem dX3_agree_1 : decode cX3_agree 1 = .ok (.getfield 42, 3) := by decide +kernel
theorem dX3_agree_4 : decode cX3_agree 4 = .ok (.invokestatic 97, 3) := by decide +kernel
theorem dX3_agree_7 : decode cX3_agree 7 = .ok (.istore_n 3, 1) := by decide +kernel
theorem dX3_agree_8 : decode cX3_agree 8 = .ok (.iconst 0, 1) := by decide +kernel
theorem dX3_agree_9 : decode cX3_agree 9 = .ok (.istore 4, 2) := by decide +kernel
theorem dX3_agree_11 : decode cX3_agree 11 = .ok (.iload 4, 2) := by decide +kernel
theorem dX3_agree_13 : decode cX3_agree 13 = .ok (.aload_n 1, 1) := by decide +kernel
theorem dX3_agree_14 : decode cX3_agree 14 = .ok (.getfield 45, 3) := by decide +kernel
theorem dX3_agree_17 : decode cX3_agree 17 = .ok (.if_icmp .ge 50, 3) := by decide +kernel
theorem dX3_agree_20 : decode cX3_agree 20 = .ok (.iload 4, 2) := by decide +kernel
theorem dX3_agree_22 : decode cX3_agree 22 = .ok (.iload_n 2, 1) := by decide +kernel
theorem dX3_agree_23 : decode cX3_agree 23 = .ok (.if_icmp .eq 38, 3) := by decide +kernel
theorem dX3_agree_26 : decode cX3_agree 26 = .ok (.aload_n 0, 1) := by decide +kernel
theorem dX3_agree_27 : decode cX3_agree 27 = .ok (.getfield 15, 3) := by decide +kernel
theorem dX3_agree_30 : decode cX3_agree 30 = .ok (.iload 4, 2) := by decide +kernel
theorem dX3_agree_32 : decode cX3_agree 32 = .ok (.iaload, 1) := by decide +kernel
theorem dX3_agree_33 : decode cX3_agree 33 = .ok (.iconst (-1), 1) := by decide +kernel
theorem dX3_agree_34 : decode cX3_agree 34 = .ok (.if_icmp .eq 27, 3) := by decide +kernel
theorem dX3_agree_37 : decode cX3_agree 37 = .ok (.aload_n 0, 1) := by decide +kernel
theorem dX3_agree_38 : decode cX3_agree 38 = .ok (.getfield 24, 3) := by decide +kernel
theorem dX3_agree_41 : decode cX3_agree 41 = .ok (.aload_n 0, 1) := by decide +kernel
theorem dX3_agree_42 : decode cX3_agree 42 = .ok (.getfield 15, 3) := by decide +kernel
theorem dX3_agree_45 : decode cX3_agree 45 = .ok (.iload 4, 2) := by decide +kernel
theorem dX3_agree_47 : decode cX3_agree 47 = .ok (.iaload, 1) := by decide +kernel
theorem dX3_agree_48 : decode cX3_agree 48 = .ok (.isub, 1) := by decide +kernel
theorem dX3_agree_49 : decode cX3_agree 49 = .ok (.iconst 1, 1) := by decide +kernel
theorem dX3_agree_50 : decode cX3_agree 50 = .ok (.if_icmp .gt 11, 3) := by decide +kernel
theorem dX3_agree_53 : decode cX3_agree 53 = .ok (.aload_n 0, 1) := by decide +kernel
theorem dX3_agree_54 : decode cX3_agree 54 = .ok (.aload_n 1, 1) := by decide +kernel
theorem dX3_agree_55 : decode cX3_agree 55 = .ok (.iload_n 2, 1) := by decide +kernel
theorem dX3_agree_56 : decode cX3_agree 56 = .ok (.iload 4, 2) := by decide +kernel
theorem dX3_agree_58 : decode cX3_agree 58 = .ok (.invokevirtual 102, 3) := by decide +kernel
theorem dX3_agree_61 : decode cX3_agree 61 = .ok (.iinc 4 1, 3) := by decide +kernel
theorem dX3_agree_64 : decode cX3_agree 64 = .ok (.goto (-53), 3) := by decide +kernel
theorem dX3_agree_67 : decode cX3_agree 67 = .ok (.aload_n 0, 1) := by decide +kernel
theorem dX3_agree_68 : decode cX3_agree 68 = .ok (.getfield 42, 3) := by decide +kernel
theorem dX3_agree_71 : decode cX3_agree 71 = .ok (.invokestatic 97, 3) := by decide +kernel
theorem dX3_agree_74 : decode cX3_agree 74 = .ok (.iload_n 3, 1) := by decide +kernel
theorem dX3_agree_75 : decode cX3_agree 75 = .ok (.isub, 1) := by decide +kernel
theorem dX3_agree_76 : decode cX3_agree 76 = .ok (.ireturn, 1) := by decide +kernel
theorem dX3_meet_0 : decode cX3_meet 0 = .ok (.aload_n 1, 1) := by decide +kernel
theorem dX3_meet_1 : decode cX3_meet 1 = .ok (.iload_n 2, 1) := by decide +kernel
theorem dX3_meet_2 : decode cX3_meet 2 = .ok (.invokevirtual 106, 3) := by decide +kernel
theorem dX3_meet_5 : decode cX3_meet 5 = .ok (.istore 4, 2) := by decide +kernel
theorem dX3_meet_7 : decode cX3_meet 7 = .ok (.aload_n 1, 1) := by decide +kernel
theorem dX3_meet_8 : decode cX3_meet 8 = .ok (.iload_n 3, 1) := by decide +kernel
theorem dX3_meet_9 : decode cX3_meet 9 = .ok (.invokevirtual 106, 3) := by decide +kernel
theorem dX3_meet_12 : decode cX3_meet 12 = .ok (.istore 5, 2) := by decide +kernel
theorem dX3_meet_14 : decode cX3_meet 14 = .ok (.iconst 1, 1) := by decide +kernel
theorem dX3_meet_15 : decode cX3_meet 15 = .ok (.iload_n 2, 1) := by decide +kernel
theorem dX3_meet_16 : decode cX3_meet 16 = .ok (.ishl, 1) := by decide +kernel
theorem dX3_meet_17 : decode cX3_meet 17 = .ok (.iconst 1, 1) := by decide +kernel
theorem dX3_meet_18 : decode cX3_meet 18 = .ok (.iload_n 3, 1) := by decide +kernel
theorem dX3_meet_19 : decode cX3_meet 19 = .ok (.ishl, 1) := by decide +kernel
theorem dX3_meet_20 : decode cX3_meet 20 = .ok (.ior, 1) := by decide +kernel
theorem dX3_meet_21 : decode cX3_meet 21 = .ok (.iconst 1, 1) := by decide +kernel
theorem dX3_meet_22 : decode cX3_meet 22 = .ok (.iload 4, 2) := by decide +kernel
theorem dX3_meet_24 : decode cX3_meet 24 = .ok (.ishl, 1) := by decide +kernel
theorem dX3_meet_25 : decode cX3_meet 25 = .ok (.ior, 1) := by decide +kernel
theorem dX3_meet_26 : decode cX3_meet 26 = .ok (.iconst 1, 1) := by decide +kernel
theorem dX3_meet_27 : decode cX3_meet 27 = .ok (.iload 5, 2) := by decide +kernel
theorem dX3_meet_29 : decode cX3_meet 29 = .ok (.ishl, 1) := by decide +kernel
theorem dX3_meet_30 : decode cX3_meet 30 = .ok (.ior, 1) := by decide +kernel
theorem dX3_meet_31 : decode cX3_meet 31 = .ok (.istore 6, 2) := by decide +kernel
theorem dX3_meet_33 : decode cX3_meet 33 = .ok (.iload 4, 2) := by decide +kernel
theorem dX3_meet_35 : decode cX3_meet 35 = .ok (.iload 5, 2) := by decide +kernel
theorem dX3_meet_37 : decode cX3_meet 37 = .ok (.if_icmp .eq 40, 3) := by decide +kernel
theorem dX3_meet_40 : decode cX3_meet 40 = .ok (.aload_n 0, 1) := by decide +kernel
theorem dX3_meet_41 : decode cX3_meet 41 = .ok (.getfield 21, 3) := by decide +kernel
theorem dX3_meet_44 : decode cX3_meet 44 = .ok (.iload_n 2, 1) := by decide +kernel
theorem dX3_meet_45 : decode cX3_meet 45 = .ok (.iaload, 1) := by decide +kernel
theorem dX3_meet_46 : decode cX3_meet 46 = .ok (.aload_n 0, 1) := by decide +kernel
theorem dX3_meet_47 : decode cX3_meet 47 = .ok (.getfield 21, 3) := by decide +kernel
theorem dX3_meet_50 : decode cX3_meet 50 = .ok (.iload_n 3, 1) := by decide +kernel
theorem dX3_meet_51 : decode cX3_meet 51 = .ok (.iaload, 1) := by decide +kernel
theorem dX3_meet_52 : decode cX3_meet 52 = .ok (.iand, 1) := by decide +kernel
theorem dX3_meet_53 : decode cX3_meet 53 = .ok (.iload 6, 2) := by decide +kernel
theorem dX3_meet_55 : decode cX3_meet 55 = .ok (.iconst (-1), 1) := by decide +kernel
theorem dX3_meet_56 : decode cX3_meet 56 = .ok (.ixor, 1) := by decide +kernel
theorem dX3_meet_57 : decode cX3_meet 57 = .ok (.iand, 1) := by decide +kernel
theorem dX3_meet_58 : decode cX3_meet 58 = .ok (.ifCond .eq 19, 3) := by decide +kernel
theorem dX3_meet_61 : decode cX3_meet 61 = .ok (.aload_n 0, 1) := by decide +kernel
theorem dX3_meet_62 : decode cX3_meet 62 = .ok (.dup, 1) := by decide +kernel
theorem dX3_meet_63 : decode cX3_meet 63 = .ok (.getfield 42, 3) := by decide +kernel
theorem dX3_meet_66 : decode cX3_meet 66 = .ok (.iload 4, 2) := by decide +kernel
theorem dX3_meet_68 : decode cX3_meet 68 = .ok (.iload 5, 2) := by decide +kernel
theorem dX3_meet_70 : decode cX3_meet 70 = .ok (.invokestatic 109, 3) := by decide +kernel
theorem dX3_meet_73 : decode cX3_meet 73 = .ok (.ior, 1) := by decide +kernel
theorem dX3_meet_74 : decode cX3_meet 74 = .ok (.putfield 42, 3) := by decide +kernel
theorem dX3_meet_77 : decode cX3_meet 77 = .ok (.return_, 1) := by decide +kernel
theorem dX3_holdsFor_0 : decode cX3_holdsFor 0 = .ok (.aload_n 0, 1) := by decide +kernel
theorem dX3_holdsFor_1 : decode cX3_holdsFor 1 = .ok (.getfield 42, 3) := by decide +kernel
theorem dX3_holdsFor_4 : decode cX3_holdsFor 4 = .ok (.iload_n 1, 1) := by decide +kernel
theorem dX3_holdsFor_5 : decode cX3_holdsFor 5 = .ok (.iload_n 2, 1) := by decide +kernel
theorem dX3_holdsFor_6 : decode cX3_holdsFor 6 = .ok (.invokestatic 109, 3) := by decide +kernel
theorem dX3_holdsFor_9 : decode cX3_holdsFor 9 = .ok (.iand, 1) := by decide +kernel
theorem dX3_holdsFor_10 : decode cX3_holdsFor 10 = .ok (.ifCond .eq 7, 3) := by decide +kernel
theorem dX3_holdsFor_13 : decode cX3_holdsFor 13 = .ok (.iconst 1, 1) := by decide +kernel
theorem dX3_holdsFor_14 : decode cX3_holdsFor 14 = .ok (.goto 4, 3) := by decide +kernel
theorem dX3_holdsFor_17 : decode cX3_holdsFor 17 = .ok (.iconst 0, 1) := by decide +kernel
theorem dX3_holdsFor_18 : decode cX3_holdsFor 18 = .ok (.ireturn, 1) := by decide +kernel
theorem dX3_conditionals_0 : decode cX3_conditionals 0 = .ok (.iconst 0, 1) := by decide +kernel
theorem dX3_conditionals_1 : decode cX3_conditionals 1 = .ok (.istore_n 2, 1) := by decide +kernel
theorem dX3_conditionals_2 : decode cX3_conditionals 2 = .ok (.iconst 1, 1) := by decide +kernel
theorem dX3_conditionals_3 : decode cX3_conditionals 3 = .ok (.istore_n 3, 1) := by decide +kernel
theorem dX3_conditionals_4 : decode cX3_conditionals 4 = .ok (.iload_n 3, 1) := by decide +kernel
theorem dX3_conditionals_5 : decode cX3_conditionals 5 = .ok (.aload_n 1, 1) := by decide +kernel
theorem dX3_conditionals_6 : decode cX3_conditionals 6 = .ok (.getfield 45, 3) := by decide +kernel
theorem dX3_conditionals_9 : decode cX3_conditionals 9 = .ok (.if_icmp .ge 47, 3) := by decide +kernel
theorem dX3_conditionals_12 : decode cX3_conditionals 12 = .ok (.iconst 0, 1) := by decide +kernel
theorem dX3_conditionals_13 : decode cX3_conditionals 13 = .ok (.istore 4, 2) := by decide +kernel
theorem dX3_conditionals_15 : decode cX3_conditionals 15 = .ok (.iload 4, 2) := by decide +kernel
theorem dX3_conditionals_17 : decode cX3_conditionals 17 = .ok (.iload_n 3, 1) := by decide +kernel
theorem dX3_conditionals_18 : decode cX3_conditionals 18 = .ok (.if_icmp .ge 32, 3) := by decide +kernel
theorem dX3_conditionals_21 : decode cX3_conditionals 21 = .ok (.aload_n 0, 1) := by decide +kernel
theorem dX3_conditionals_22 : decode cX3_conditionals 22 = .ok (.iload 4, 2) := by decide +kernel
theorem dX3_conditionals_24 : decode cX3_conditionals 24 = .ok (.iload_n 3, 1) := by decide +kernel
theorem dX3_conditionals_25 : decode cX3_conditionals 25 = .ok (.invokevirtual 112, 3) := by decide +kernel
theorem dX3_conditionals_28 : decode cX3_conditionals 28 = .ok (.ifCond .eq 16, 3) := by decide +kernel
theorem dX3_conditionals_31 : decode cX3_conditionals 31 = .ok (.aload_n 1, 1) := by decide +kernel
theorem dX3_conditionals_32 : decode cX3_conditionals 32 = .ok (.iload 4, 2) := by decide +kernel
theorem dX3_conditionals_34 : decode cX3_conditionals 34 = .ok (.iload_n 3, 1) := by decide +kernel
theorem dX3_conditionals_35 : decode cX3_conditionals 35 = .ok (.invokevirtual 116, 3) := by decide +kernel
theorem dX3_conditionals_38 : decode cX3_conditionals 38 = .ok (.ifCond .eq 6, 3) := by decide +kernel
theorem dX3_conditionals_41 : decode cX3_conditionals 41 = .ok (.iinc 2 1, 3) := by decide +kernel
theorem dX3_conditionals_44 : decode cX3_conditionals 44 = .ok (.iinc 4 1, 3) := by decide +kernel
theorem dX3_conditionals_47 : decode cX3_conditionals 47 = .ok (.goto (-32), 3) := by decide +kernel
theorem dX3_conditionals_50 : decode cX3_conditionals 50 = .ok (.iinc 3 1, 3) := by decide +kernel
theorem dX3_conditionals_53 : decode cX3_conditionals 53 = .ok (.goto (-49), 3) := by decide +kernel
theorem dX3_conditionals_56 : decode cX3_conditionals 56 = .ok (.iload_n 2, 1) := by decide +kernel
theorem dX3_conditionals_57 : decode cX3_conditionals 57 = .ok (.ireturn, 1) := by decide +kernel
theorem dX3_lackOfPowder_0 : decode cX3_lackOfPowder 0 = .ok (.aload_n 0, 1) := by decide +kernel
theorem dX3_lackOfPowder_1 : decode cX3_lackOfPowder 1 = .ok (.aload_n 1, 1) := by decide +kernel
theorem dX3_lackOfPowder_2 : decode cX3_lackOfPowder 2 = .ok (.iload_n 2, 1) := by decide +kernel
theorem dX3_lackOfPowder_3 : decode cX3_lackOfPowder 3 = .ok (.invokevirtual 70, 3) := by decide +kernel
theorem dX3_lackOfPowder_6 : decode cX3_lackOfPowder 6 = .ok (.istore 4, 2) := by decide +kernel
theorem dX3_lackOfPowder_8 : decode cX3_lackOfPowder 8 = .ok (.iconst (-1), 1) := by decide +kernel
theorem dX3_lackOfPowder_9 : decode cX3_lackOfPowder 9 = .ok (.istore 5, 2) := by decide +kernel
theorem dX3_lackOfPowder_11 : decode cX3_lackOfPowder 11 = .ok (.iconst 0, 1) := by decide +kernel
theorem dX3_lackOfPowder_12 : decode cX3_lackOfPowder 12 = .ok (.istore 6, 2) := by decide +kernel
theorem dX3_lackOfPowder_14 : decode cX3_lackOfPowder 14 = .ok (.iload 6, 2) := by decide +kernel
theorem dX3_lackOfPowder_16 : decode cX3_lackOfPowder 16 = .ok (.aload_n 1, 1) := by decide +kernel
theorem dX3_lackOfPowder_17 : decode cX3_lackOfPowder 17 = .ok (.getfield 45, 3) := by decide +kernel
theorem dX3_lackOfPowder_20 : decode cX3_lackOfPowder 20 = .ok (.if_icmp .ge 45, 3) := by decide +kernel
theorem dX3_lackOfPowder_23 : decode cX3_lackOfPowder 23 = .ok (.iload 6, 2) := by decide +kernel
theorem dX3_lackOfPowder_25 : decode cX3_lackOfPowder 25 = .ok (.iload_n 2, 1) := by decide +kernel
theorem dX3_lackOfPowder_26 : decode cX3_lackOfPowder 26 = .ok (.if_icmp .eq 33, 3) := by decide +kernel
theorem dX3_lackOfPowder_29 : decode cX3_lackOfPowder 29 = .ok (.iload_n 3, 1) := by decide +kernel
theorem dX3_lackOfPowder_30 : decode cX3_lackOfPowder 30 = .ok (.iload 6, 2) := by decide +kernel
theorem dX3_lackOfPowder_32 : decode cX3_lackOfPowder 32 = .ok (.ishr, 1) := by decide +kernel
theorem dX3_lackOfPowder_33 : decode cX3_lackOfPowder 33 = .ok (.iconst 1, 1) := by decide +kernel
theorem dX3_lackOfPowder_34 : decode cX3_lackOfPowder 34 = .ok (.iand, 1) := by decide +kernel
theorem dX3_lackOfPowder_35 : decode cX3_lackOfPowder 35 = .ok (.iconst 1, 1) := by decide +kernel
theorem dX3_lackOfPowder_36 : decode cX3_lackOfPowder 36 = .ok (.if_icmp .ne 23, 3) := by decide +kernel
theorem dX3_lackOfPowder_39 : decode cX3_lackOfPowder 39 = .ok (.iload 5, 2) := by decide +kernel
theorem dX3_lackOfPowder_41 : decode cX3_lackOfPowder 41 = .ok (.aload_n 1, 1) := by decide +kernel
theorem dX3_lackOfPowder_42 : decode cX3_lackOfPowder 42 = .ok (.getfield 58, 3) := by decide +kernel
theorem dX3_lackOfPowder_45 : decode cX3_lackOfPowder 45 = .ok (.iload 6, 2) := by decide +kernel
theorem dX3_lackOfPowder_47 : decode cX3_lackOfPowder 47 = .ok (.iaload, 1) := by decide +kernel
theorem dX3_lackOfPowder_48 : decode cX3_lackOfPowder 48 = .ok (.iload 4, 2) := by decide +kernel
theorem dX3_lackOfPowder_50 : decode cX3_lackOfPowder 50 = .ok (.isub, 1) := by decide +kernel
theorem dX3_lackOfPowder_51 : decode cX3_lackOfPowder 51 = .ok (.invokestatic 80, 3) := by decide +kernel
theorem dX3_lackOfPowder_54 : decode cX3_lackOfPowder 54 = .ok (.invokestatic 67, 3) := by decide +kernel
theorem dX3_lackOfPowder_57 : decode cX3_lackOfPowder 57 = .ok (.istore 5, 2) := by decide +kernel
theorem dX3_lackOfPowder_59 : decode cX3_lackOfPowder 59 = .ok (.iinc 6 1, 3) := by decide +kernel
theorem dX3_lackOfPowder_62 : decode cX3_lackOfPowder 62 = .ok (.goto (-48), 3) := by decide +kernel
theorem dX3_lackOfPowder_65 : decode cX3_lackOfPowder 65 = .ok (.iload 5, 2) := by decide +kernel
theorem dX3_lackOfPowder_67 : decode cX3_lackOfPowder 67 = .ok (.iconst (-1), 1) := by decide +kernel
theorem dX3_lackOfPowder_68 : decode cX3_lackOfPowder 68 = .ok (.if_icmp .ne 7, 3) := by decide +kernel
theorem dX3_lackOfPowder_71 : decode cX3_lackOfPowder 71 = .ok (.iconst 0, 1) := by decide +kernel
theorem dX3_lackOfPowder_72 : decode cX3_lackOfPowder 72 = .ok (.goto 16, 3) := by decide +kernel
theorem dX3_lackOfPowder_75 : decode cX3_lackOfPowder 75 = .ok (.iconst 0, 1) := by decide +kernel
theorem dX3_lackOfPowder_76 : decode cX3_lackOfPowder 76 = .ok (.iload 5, 2) := by decide +kernel
theorem dX3_lackOfPowder_78 : decode cX3_lackOfPowder 78 = .ok (.aload_n 0, 1) := by decide +kernel
theorem dX3_lackOfPowder_79 : decode cX3_lackOfPowder 79 = .ok (.aload_n 1, 1) := by decide +kernel
theorem dX3_lackOfPowder_80 : decode cX3_lackOfPowder 80 = .ok (.iload_n 2, 1) := by decide +kernel
theorem dX3_lackOfPowder_81 : decode cX3_lackOfPowder 81 = .ok (.invokevirtual 77, 3) := by decide +kernel
theorem dX3_lackOfPowder_84 : decode cX3_lackOfPowder 84 = .ok (.isub, 1) := by decide +kernel
theorem dX3_lackOfPowder_85 : decode cX3_lackOfPowder 85 = .ok (.invokestatic 67, 3) := by decide +kernel
theorem dX3_lackOfPowder_88 : decode cX3_lackOfPowder 88 = .ok (.ireturn, 1) := by decide +kernel
theorem dX3_pairBit_0 : decode cX3_pairBit 0 = .ok (.iload_n 0, 1) := by decide +kernel
theorem dX3_pairBit_1 : decode cX3_pairBit 1 = .ok (.iload_n 1, 1) := by decide +kernel
theorem dX3_pairBit_2 : decode cX3_pairBit 2 = .ok (.invokestatic 67, 3) := by decide +kernel
theorem dX3_pairBit_5 : decode cX3_pairBit 5 = .ok (.istore_n 2, 1) := by decide +kernel
theorem dX3_pairBit_6 : decode cX3_pairBit 6 = .ok (.iconst 1, 1) := by decide +kernel
theorem dX3_pairBit_7 : decode cX3_pairBit 7 = .ok (.iload_n 2, 1) := by decide +kernel
theorem dX3_pairBit_8 : decode cX3_pairBit 8 = .ok (.iload_n 2, 1) := by decide +kernel
theorem dX3_pairBit_9 : decode cX3_pairBit 9 = .ok (.iconst 1, 1) := by decide +kernel
theorem dX3_pairBit_10 : decode cX3_pairBit 10 = .ok (.isub, 1) := by decide +kernel
theorem dX3_pairBit_11 : decode cX3_pairBit 11 = .ok (.imul, 1) := by decide +kernel
theorem dX3_pairBit_12 : decode cX3_pairBit 12 = .ok (.iconst 2, 1) := by decide +kernel
theorem dX3_pairBit_13 : decode cX3_pairBit 13 = .ok (.idiv, 1) := by decide +kernel
theorem dX3_pairBit_14 : decode cX3_pairBit 14 = .ok (.iload_n 0, 1) := by decide +kernel
theorem dX3_pairBit_15 : decode cX3_pairBit 15 = .ok (.iload_n 1, 1) := by decide +kernel
theorem dX3_pairBit_16 : decode cX3_pairBit 16 = .ok (.invokestatic 61, 3) := by decide +kernel
theorem dX3_pairBit_19 : decode cX3_pairBit 19 = .ok (.iadd, 1) := by decide +kernel
theorem dX3_pairBit_20 : decode cX3_pairBit 20 = .ok (.ishl, 1) := by decide +kernel
theorem dX3_pairBit_21 : decode cX3_pairBit 21 = .ok (.ireturn, 1) := by decide +kernel
theorem dX4_init_0 : decode cX4_init 0 = .ok (.aload_n 0, 1) := by decide +kernel
theorem dX4_init_1 : decode cX4_init 1 = .ok (.invokespecial 3, 3) := by decide +kernel
theorem dX4_init_4 : decode cX4_init 4 = .ok (.aload_n 0, 1) := by decide +kernel
theorem dX4_init_5 : decode cX4_init 5 = .ok (.bipush 8, 2) := by decide +kernel
theorem dX4_init_7 : decode cX4_init 7 = .ok (.newarray .int, 2) := by decide +kernel
theorem dX4_init_9 : decode cX4_init 9 = .ok (.putfield 9, 3) := by decide +kernel
theorem dX4_init_12 : decode cX4_init 12 = .ok (.aload_n 0, 1) := by decide +kernel
theorem dX4_init_13 : decode cX4_init 13 = .ok (.bipush 8, 2) := by decide +kernel
theorem dX4_init_15 : decode cX4_init 15 = .ok (.newarray .int, 2) := by decide +kernel
end
section
theorem dX4_init_17 : decode cX4_init 17 = .ok (.putfield 15, 3) := by decide +kernel
theorem dX4_init_20 : decode cX4_init 20 = .ok (.return_, 1) := by decide +kernel
theorem dX4_settle_0 : decode cX4_settle 0 = .ok (.iconst 0, 1) := by decide +kernel
theorem dX4_settle_1 : decode cX4_settle 1 = .ok (.istore_n 3, 1) := by decide +kernel
theorem dX4_settle_2 : decode cX4_settle 2 = .ok (.iload_n 3, 1) := by decide +kernel
theorem dX4_settle_3 : decode cX4_settle 3 = .ok (.bipush 8, 2) := by decide +kernel
theorem dX4_settle_5 : decode cX4_settle 5 = .ok (.if_icmp .ge 23, 3) := by decide +kernel
theorem dX4_settle_8 : decode cX4_settle 8 = .ok (.aload_n 0, 1) := by decide +kernel
theorem dX4_settle_9 : decode cX4_settle 9 = .ok (.getfield 9, 3) := by decide +kernel
theorem dX4_settle_12 : decode cX4_settle 12 = .ok (.iload_n 3, 1) := by decide +kernel
theorem dX4_settle_13 : decode cX4_settle 13 = .ok (.iconst (-1), 1) := by decide +kernel
theorem dX4_settle_14 : decode cX4_settle 14 = .ok (.iastore, 1) := by decide +kernel
theorem dX4_settle_15 : decode cX4_settle 15 = .ok (.aload_n 0, 1) := by decide +kernel
theorem dX4_settle_16 : decode cX4_settle 16 = .ok (.getfield 15, 3) := by decide +kernel
theorem dX4_settle_19 : decode cX4_settle 19 = .ok (.iload_n 3, 1) := by decide +kernel
theorem dX4_settle_20 : decode cX4_settle 20 = .ok (.iconst 0, 1) := by decide +kernel
theorem dX4_settle_21 : decode cX4_settle 21 = .ok (.iastore, 1) := by decide +kernel
theorem dX4_settle_22 : decode cX4_settle 22 = .ok (.iinc 3 1, 3) := by decide +kernel
theorem dX4_settle_25 : decode cX4_settle 25 = .ok (.goto (-23), 3) := by decide +kernel
theorem dX4_settle_28 : decode cX4_settle 28 = .ok (.iconst 1, 1) := by decide +kernel
theorem dX4_settle_29 : decode cX4_settle 29 = .ok (.istore_n 3, 1) := by decide +kernel
theorem dX4_settle_30 : decode cX4_settle 30 = .ok (.iconst 0, 1) := by decide +kernel
theorem dX4_settle_31 : decode cX4_settle 31 = .ok (.istore 4, 2) := by decide +kernel
theorem dX4_settle_33 : decode cX4_settle 33 = .ok (.iload 4, 2) := by decide +kernel
theorem dX4_settle_35 : decode cX4_settle 35 = .ok (.bipush 64, 2) := by decide +kernel
theorem dX4_settle_37 : decode cX4_settle 37 = .ok (.if_icmp .ge 20, 3) := by decide +kernel
theorem dX4_settle_40 : decode cX4_settle 40 = .ok (.iload_n 3, 1) := by decide +kernel
theorem dX4_settle_41 : decode cX4_settle 41 = .ok (.ifCond .eq 16, 3) := by decide +kernel
theorem dX4_settle_44 : decode cX4_settle 44 = .ok (.aload_n 0, 1) := by decide +kernel
theorem dX4_settle_45 : decode cX4_settle 45 = .ok (.aload_n 1, 1) := by decide +kernel
theorem dX4_settle_46 : decode cX4_settle 46 = .ok (.aload_n 2, 1) := by decide +kernel
theorem dX4_settle_47 : decode cX4_settle 47 = .ok (.invokevirtual 18, 3) := by decide +kernel
theorem dX4_settle_50 : decode cX4_settle 50 = .ok (.istore_n 3, 1) := by decide +kernel
theorem dX4_settle_51 : decode cX4_settle 51 = .ok (.iinc 4 1, 3) := by decide +kernel
theorem dX4_settle_54 : decode cX4_settle 54 = .ok (.goto (-21), 3) := by decide +kernel
theorem dX4_settle_57 : decode cX4_settle 57 = .ok (.return_, 1) := by decide +kernel
theorem dX4_askAll_0 : decode cX4_askAll 0 = .ok (.iconst 0, 1) := by decide +kernel
theorem dX4_askAll_1 : decode cX4_askAll 1 = .ok (.istore_n 3, 1) := by decide +kernel
theorem dX4_askAll_2 : decode cX4_askAll 2 = .ok (.iconst 0, 1) := by decide +kernel
theorem dX4_askAll_3 : decode cX4_askAll 3 = .ok (.istore 4, 2) := by decide +kernel
theorem dX4_askAll_5 : decode cX4_askAll 5 = .ok (.iload 4, 2) := by decide +kernel
theorem dX4_askAll_7 : decode cX4_askAll 7 = .ok (.aload_n 1, 1) := by decide +kernel
theorem dX4_askAll_8 : decode cX4_askAll 8 = .ok (.getfield 22, 3) := by decide +kernel
theorem dX4_askAll_11 : decode cX4_askAll 11 = .ok (.if_icmp .ge 57, 3) := by decide +kernel
theorem dX4_askAll_14 : decode cX4_askAll 14 = .ok (.aload_n 2, 1) := by decide +kernel
theorem dX4_askAll_15 : decode cX4_askAll 15 = .ok (.getfield 28, 3) := by decide +kernel
theorem dX4_askAll_18 : decode cX4_askAll 18 = .ok (.iload 4, 2) := by decide +kernel
theorem dX4_askAll_20 : decode cX4_askAll 20 = .ok (.iaload, 1) := by decide +kernel
theorem dX4_askAll_21 : decode cX4_askAll 21 = .ok (.ifCond .le 41, 3) := by decide +kernel
theorem dX4_askAll_24 : decode cX4_askAll 24 = .ok (.aload_n 0, 1) := by decide +kernel
theorem dX4_askAll_25 : decode cX4_askAll 25 = .ok (.getfield 9, 3) := by decide +kernel
theorem dX4_askAll_28 : decode cX4_askAll 28 = .ok (.iload 4, 2) := by decide +kernel
theorem dX4_askAll_30 : decode cX4_askAll 30 = .ok (.iaload, 1) := by decide +kernel
theorem dX4_askAll_31 : decode cX4_askAll 31 = .ok (.iconst (-1), 1) := by decide +kernel
theorem dX4_askAll_32 : decode cX4_askAll 32 = .ok (.if_icmp .ne 30, 3) := by decide +kernel
theorem dX4_askAll_35 : decode cX4_askAll 35 = .ok (.aload_n 0, 1) := by decide +kernel
theorem dX4_askAll_36 : decode cX4_askAll 36 = .ok (.aload_n 1, 1) := by decide +kernel
theorem dX4_askAll_37 : decode cX4_askAll 37 = .ok (.aload_n 2, 1) := by decide +kernel
theorem dX4_askAll_38 : decode cX4_askAll 38 = .ok (.iload 4, 2) := by decide +kernel
theorem dX4_askAll_40 : decode cX4_askAll 40 = .ok (.invokevirtual 33, 3) := by decide +kernel
theorem dX4_askAll_43 : decode cX4_askAll 43 = .ok (.istore 5, 2) := by decide +kernel
theorem dX4_askAll_45 : decode cX4_askAll 45 = .ok (.iload 5, 2) := by decide +kernel
theorem dX4_askAll_47 : decode cX4_askAll 47 = .ok (.iconst (-1), 1) := by decide +kernel
theorem dX4_askAll_48 : decode cX4_askAll 48 = .ok (.if_icmp .eq 14, 3) := by decide +kernel
theorem dX4_askAll_51 : decode cX4_askAll 51 = .ok (.aload_n 0, 1) := by decide +kernel
theorem dX4_askAll_52 : decode cX4_askAll 52 = .ok (.aload_n 1, 1) := by decide +kernel
theorem dX4_askAll_53 : decode cX4_askAll 53 = .ok (.iload 4, 2) := by decide +kernel
theorem dX4_askAll_55 : decode cX4_askAll 55 = .ok (.iload 5, 2) := by decide +kernel
theorem dX4_askAll_57 : decode cX4_askAll 57 = .ok (.invokevirtual 37, 3) := by decide +kernel
theorem dX4_askAll_60 : decode cX4_askAll 60 = .ok (.iconst 1, 1) := by decide +kernel
theorem dX4_askAll_61 : decode cX4_askAll 61 = .ok (.istore_n 3, 1) := by decide +kernel
theorem dX4_askAll_62 : decode cX4_askAll 62 = .ok (.iinc 4 2, 3) := by decide +kernel
theorem dX4_askAll_65 : decode cX4_askAll 65 = .ok (.goto (-60), 3) := by decide +kernel
theorem dX4_askAll_68 : decode cX4_askAll 68 = .ok (.iload_n 3, 1) := by decide +kernel
theorem dX4_askAll_69 : decode cX4_askAll 69 = .ok (.ireturn, 1) := by decide +kernel
theorem dX4_nearestToAsk_0 : decode cX4_nearestToAsk 0 = .ok (.iconst (-1), 1) := by decide +kernel
theorem dX4_nearestToAsk_1 : decode cX4_nearestToAsk 1 = .ok (.istore 4, 2) := by decide +kernel
theorem dX4_nearestToAsk_3 : decode cX4_nearestToAsk 3 = .ok (.iconst 1, 1) := by decide +kernel
theorem dX4_nearestToAsk_4 : decode cX4_nearestToAsk 4 = .ok (.istore 5, 2) := by decide +kernel
theorem dX4_nearestToAsk_6 : decode cX4_nearestToAsk 6 = .ok (.iload 5, 2) := by decide +kernel
theorem dX4_nearestToAsk_8 : decode cX4_nearestToAsk 8 = .ok (.aload_n 1, 1) := by decide +kernel
theorem dX4_nearestToAsk_9 : decode cX4_nearestToAsk 9 = .ok (.getfield 22, 3) := by decide +kernel
theorem dX4_nearestToAsk_12 : decode cX4_nearestToAsk 12 = .ok (.if_icmp .ge 72, 3) := by decide +kernel
theorem dX4_nearestToAsk_15 : decode cX4_nearestToAsk 15 = .ok (.aload_n 2, 1) := by decide +kernel
theorem dX4_nearestToAsk_16 : decode cX4_nearestToAsk 16 = .ok (.getfield 28, 3) := by decide +kernel
theorem dX4_nearestToAsk_19 : decode cX4_nearestToAsk 19 = .ok (.iload 5, 2) := by decide +kernel
theorem dX4_nearestToAsk_21 : decode cX4_nearestToAsk 21 = .ok (.iaload, 1) := by decide +kernel
theorem dX4_nearestToAsk_22 : decode cX4_nearestToAsk 22 = .ok (.ifCond .le 21, 3) := by decide +kernel
theorem dX4_nearestToAsk_25 : decode cX4_nearestToAsk 25 = .ok (.aload_n 0, 1) := by decide +kernel
theorem dX4_nearestToAsk_26 : decode cX4_nearestToAsk 26 = .ok (.getfield 15, 3) := by decide +kernel
theorem dX4_nearestToAsk_29 : decode cX4_nearestToAsk 29 = .ok (.iload_n 3, 1) := by decide +kernel
theorem dX4_nearestToAsk_30 : decode cX4_nearestToAsk 30 = .ok (.iaload, 1) := by decide +kernel
theorem dX4_nearestToAsk_31 : decode cX4_nearestToAsk 31 = .ok (.iload 5, 2) := by decide +kernel
theorem dX4_nearestToAsk_33 : decode cX4_nearestToAsk 33 = .ok (.ishr, 1) := by decide +kernel
theorem dX4_nearestToAsk_34 : decode cX4_nearestToAsk 34 = .ok (.iconst 1, 1) := by decide +kernel
theorem dX4_nearestToAsk_35 : decode cX4_nearestToAsk 35 = .ok (.iand, 1) := by decide +kernel
theorem dX4_nearestToAsk_36 : decode cX4_nearestToAsk 36 = .ok (.ifCond .ne 7, 3) := by decide +kernel
theorem dX4_nearestToAsk_39 : decode cX4_nearestToAsk 39 = .ok (.iconst 1, 1) := by decide +kernel
theorem dX4_nearestToAsk_40 : decode cX4_nearestToAsk 40 = .ok (.goto 4, 3) := by decide +kernel
theorem dX4_nearestToAsk_43 : decode cX4_nearestToAsk 43 = .ok (.iconst 0, 1) := by decide +kernel
theorem dX4_nearestToAsk_44 : decode cX4_nearestToAsk 44 = .ok (.istore 6, 2) := by decide +kernel
theorem dX4_nearestToAsk_46 : decode cX4_nearestToAsk 46 = .ok (.iload 6, 2) := by decide +kernel
theorem dX4_nearestToAsk_48 : decode cX4_nearestToAsk 48 = .ok (.ifCond .eq 30, 3) := by decide +kernel
theorem dX4_nearestToAsk_51 : decode cX4_nearestToAsk 51 = .ok (.iload 4, 2) := by decide +kernel
theorem dX4_nearestToAsk_53 : decode cX4_nearestToAsk 53 = .ok (.iconst (-1), 1) := by decide +kernel
theorem dX4_nearestToAsk_54 : decode cX4_nearestToAsk 54 = .ok (.if_icmp .eq 20, 3) := by decide +kernel
theorem dX4_nearestToAsk_57 : decode cX4_nearestToAsk 57 = .ok (.aload_n 1, 1) := by decide +kernel
theorem dX4_nearestToAsk_58 : decode cX4_nearestToAsk 58 = .ok (.iload_n 3, 1) := by decide +kernel
theorem dX4_nearestToAsk_59 : decode cX4_nearestToAsk 59 = .ok (.iload 5, 2) := by decide +kernel
theorem dX4_nearestToAsk_61 : decode cX4_nearestToAsk 61 = .ok (.invokevirtual 41, 3) := by decide +kernel
theorem dX4_nearestToAsk_64 : decode cX4_nearestToAsk 64 = .ok (.aload_n 1, 1) := by decide +kernel
theorem dX4_nearestToAsk_65 : decode cX4_nearestToAsk 65 = .ok (.iload_n 3, 1) := by decide +kernel
theorem dX4_nearestToAsk_66 : decode cX4_nearestToAsk 66 = .ok (.iload 4, 2) := by decide +kernel
theorem dX4_nearestToAsk_68 : decode cX4_nearestToAsk 68 = .ok (.invokevirtual 41, 3) := by decide +kernel
theorem dX4_nearestToAsk_71 : decode cX4_nearestToAsk 71 = .ok (.if_icmp .ge 7, 3) := by decide +kernel
theorem dX4_nearestToAsk_74 : decode cX4_nearestToAsk 74 = .ok (.iload 5, 2) := by decide +kernel
theorem dX4_nearestToAsk_76 : decode cX4_nearestToAsk 76 = .ok (.istore 4, 2) := by decide +kernel
theorem dX4_nearestToAsk_78 : decode cX4_nearestToAsk 78 = .ok (.iinc 5 2, 3) := by decide +kernel
theorem dX4_nearestToAsk_81 : decode cX4_nearestToAsk 81 = .ok (.goto (-75), 3) := by decide +kernel
theorem dX4_nearestToAsk_84 : decode cX4_nearestToAsk 84 = .ok (.iload 4, 2) := by decide +kernel
theorem dX4_nearestToAsk_86 : decode cX4_nearestToAsk 86 = .ok (.ireturn, 1) := by decide +kernel
theorem dX4_ask_0 : decode cX4_ask 0 = .ok (.aload_n 0, 1) := by decide +kernel
theorem dX4_ask_1 : decode cX4_ask 1 = .ok (.getfield 9, 3) := by decide +kernel
theorem dX4_ask_4 : decode cX4_ask 4 = .ok (.iload_n 3, 1) := by decide +kernel
theorem dX4_ask_5 : decode cX4_ask 5 = .ok (.iaload, 1) := by decide +kernel
theorem dX4_ask_6 : decode cX4_ask 6 = .ok (.istore 4, 2) := by decide +kernel
theorem dX4_ask_8 : decode cX4_ask 8 = .ok (.iload 4, 2) := by decide +kernel
theorem dX4_ask_10 : decode cX4_ask 10 = .ok (.iconst (-1), 1) := by decide +kernel
theorem dX4_ask_11 : decode cX4_ask 11 = .ok (.if_icmp .ne 12, 3) := by decide +kernel
theorem dX4_ask_14 : decode cX4_ask 14 = .ok (.aload_n 0, 1) := by decide +kernel
theorem dX4_ask_15 : decode cX4_ask 15 = .ok (.iload_n 2, 1) := by decide +kernel
theorem dX4_ask_16 : decode cX4_ask 16 = .ok (.iload_n 3, 1) := by decide +kernel
theorem dX4_ask_17 : decode cX4_ask 17 = .ok (.invokevirtual 45, 3) := by decide +kernel
theorem dX4_ask_20 : decode cX4_ask 20 = .ok (.goto 56, 3) := by decide +kernel
theorem dX4_ask_23 : decode cX4_ask 23 = .ok (.aload_n 1, 1) := by decide +kernel
theorem dX4_ask_24 : decode cX4_ask 24 = .ok (.iload_n 3, 1) := by decide +kernel
theorem dX4_ask_25 : decode cX4_ask 25 = .ok (.iload_n 2, 1) := by decide +kernel
theorem dX4_ask_26 : decode cX4_ask 26 = .ok (.iload 4, 2) := by decide +kernel
theorem dX4_ask_28 : decode cX4_ask 28 = .ok (.invokestatic 49, 3) := by decide +kernel
theorem dX4_ask_31 : decode cX4_ask 31 = .ok (.ifCond .eq 33, 3) := by decide +kernel
theorem dX4_ask_34 : decode cX4_ask 34 = .ok (.aload_n 0, 1) := by decide +kernel
theorem dX4_ask_35 : decode cX4_ask 35 = .ok (.getfield 9, 3) := by decide +kernel
theorem dX4_ask_38 : decode cX4_ask 38 = .ok (.iload 4, 2) := by decide +kernel
theorem dX4_ask_40 : decode cX4_ask 40 = .ok (.iconst (-1), 1) := by decide +kernel
theorem dX4_ask_41 : decode cX4_ask 41 = .ok (.iastore, 1) := by decide +kernel
theorem dX4_ask_42 : decode cX4_ask 42 = .ok (.aload_n 0, 1) := by decide +kernel
theorem dX4_ask_43 : decode cX4_ask 43 = .ok (.getfield 15, 3) := by decide +kernel
theorem dX4_ask_46 : decode cX4_ask 46 = .ok (.iload 4, 2) := by decide +kernel
theorem dX4_ask_48 : decode cX4_ask 48 = .ok (.dup2, 1) := by decide +kernel
theorem dX4_ask_49 : decode cX4_ask 49 = .ok (.iaload, 1) := by decide +kernel
theorem dX4_ask_50 : decode cX4_ask 50 = .ok (.iconst 1, 1) := by decide +kernel
theorem dX4_ask_51 : decode cX4_ask 51 = .ok (.iload_n 3, 1) := by decide +kernel
theorem dX4_ask_52 : decode cX4_ask 52 = .ok (.ishl, 1) := by decide +kernel
theorem dX4_ask_53 : decode cX4_ask 53 = .ok (.ior, 1) := by decide +kernel
theorem dX4_ask_54 : decode cX4_ask 54 = .ok (.iastore, 1) := by decide +kernel
theorem dX4_ask_55 : decode cX4_ask 55 = .ok (.aload_n 0, 1) := by decide +kernel
theorem dX4_ask_56 : decode cX4_ask 56 = .ok (.iload_n 2, 1) := by decide +kernel
theorem dX4_ask_57 : decode cX4_ask 57 = .ok (.iload_n 3, 1) := by decide +kernel
theorem dX4_ask_58 : decode cX4_ask 58 = .ok (.invokevirtual 45, 3) := by decide +kernel
theorem dX4_ask_61 : decode cX4_ask 61 = .ok (.goto 15, 3) := by decide +kernel
theorem dX4_ask_64 : decode cX4_ask 64 = .ok (.aload_n 0, 1) := by decide +kernel
theorem dX4_ask_65 : decode cX4_ask 65 = .ok (.getfield 15, 3) := by decide +kernel
theorem dX4_ask_68 : decode cX4_ask 68 = .ok (.iload_n 2, 1) := by decide +kernel
theorem dX4_ask_69 : decode cX4_ask 69 = .ok (.dup2, 1) := by decide +kernel
theorem dX4_ask_70 : decode cX4_ask 70 = .ok (.iaload, 1) := by decide +kernel
theorem dX4_ask_71 : decode cX4_ask 71 = .ok (.iconst 1, 1) := by decide +kernel
theorem dX4_ask_72 : decode cX4_ask 72 = .ok (.iload_n 3, 1) := by decide +kernel
theorem dX4_ask_73 : decode cX4_ask 73 = .ok (.ishl, 1) := by decide +kernel
theorem dX4_ask_74 : decode cX4_ask 74 = .ok (.ior, 1) := by decide +kernel
theorem dX4_ask_75 : decode cX4_ask 75 = .ok (.iastore, 1) := by decide +kernel
theorem dX4_ask_76 : decode cX4_ask 76 = .ok (.return_, 1) := by decide +kernel
theorem dX4_pair_0 : decode cX4_pair 0 = .ok (.aload_n 0, 1) := by decide +kernel
theorem dX4_pair_1 : decode cX4_pair 1 = .ok (.getfield 9, 3) := by decide +kernel
theorem dX4_pair_4 : decode cX4_pair 4 = .ok (.iload_n 1, 1) := by decide +kernel
theorem dX4_pair_5 : decode cX4_pair 5 = .ok (.iload_n 2, 1) := by decide +kernel
theorem dX4_pair_6 : decode cX4_pair 6 = .ok (.iastore, 1) := by decide +kernel
theorem dX4_pair_7 : decode cX4_pair 7 = .ok (.aload_n 0, 1) := by decide +kernel
theorem dX4_pair_8 : decode cX4_pair 8 = .ok (.getfield 9, 3) := by decide +kernel
theorem dX4_pair_11 : decode cX4_pair 11 = .ok (.iload_n 2, 1) := by decide +kernel
theorem dX4_pair_12 : decode cX4_pair 12 = .ok (.iload_n 1, 1) := by decide +kernel
theorem dX4_pair_13 : decode cX4_pair 13 = .ok (.iastore, 1) := by decide +kernel
theorem dX4_pair_14 : decode cX4_pair 14 = .ok (.return_, 1) := by decide +kernel
theorem dX4_isNearer_0 : decode cX4_isNearer 0 = .ok (.aload_n 0, 1) := by decide +kernel
theorem dX4_isNearer_1 : decode cX4_isNearer 1 = .ok (.iload_n 1, 1) := by decide +kernel
theorem dX4_isNearer_2 : decode cX4_isNearer 2 = .ok (.iload_n 2, 1) := by decide +kernel
theorem dX4_isNearer_3 : decode cX4_isNearer 3 = .ok (.invokevirtual 41, 3) := by decide +kernel
theorem dX4_isNearer_6 : decode cX4_isNearer 6 = .ok (.istore 4, 2) := by decide +kernel
theorem dX4_isNearer_8 : decode cX4_isNearer 8 = .ok (.aload_n 0, 1) := by decide +kernel
theorem dX4_isNearer_9 : decode cX4_isNearer 9 = .ok (.iload_n 1, 1) := by decide +kernel
theorem dX4_isNearer_10 : decode cX4_isNearer 10 = .ok (.iload_n 3, 1) := by decide +kernel
theorem dX4_isNearer_11 : decode cX4_isNearer 11 = .ok (.invokevirtual 41, 3) := by decide +kernel
theorem dX4_isNearer_14 : decode cX4_isNearer 14 = .ok (.istore 5, 2) := by decide +kernel
theorem dX4_isNearer_16 : decode cX4_isNearer 16 = .ok (.iload 4, 2) := by decide +kernel
theorem dX4_isNearer_18 : decode cX4_isNearer 18 = .ok (.iload 5, 2) := by decide +kernel
theorem dX4_isNearer_20 : decode cX4_isNearer 20 = .ok (.if_icmp .lt 15, 3) := by decide +kernel
theorem dX4_isNearer_23 : decode cX4_isNearer 23 = .ok (.iload 4, 2) := by decide +kernel
theorem dX4_isNearer_25 : decode cX4_isNearer 25 = .ok (.iload 5, 2) := by decide +kernel
theorem dX4_isNearer_27 : decode cX4_isNearer 27 = .ok (.if_icmp .ne 12, 3) := by decide +kernel
theorem dX4_isNearer_30 : decode cX4_isNearer 30 = .ok (.iload_n 2, 1) := by decide +kernel
theorem dX4_isNearer_31 : decode cX4_isNearer 31 = .ok (.iload_n 3, 1) := by decide +kernel
theorem dX4_isNearer_32 : decode cX4_isNearer 32 = .ok (.if_icmp .ge 7, 3) := by decide +kernel
theorem dX4_isNearer_35 : decode cX4_isNearer 35 = .ok (.iconst 1, 1) := by decide +kernel
theorem dX4_isNearer_36 : decode cX4_isNearer 36 = .ok (.goto 4, 3) := by decide +kernel
theorem dX4_isNearer_39 : decode cX4_isNearer 39 = .ok (.iconst 0, 1) := by decide +kernel
theorem dX4_isNearer_40 : decode cX4_isNearer 40 = .ok (.ireturn, 1) := by decide +kernel
theorem dX5_init_0 : decode cX5_init 0 = .ok (.aload_n 0, 1) := by decide +kernel
theorem dX5_init_1 : decode cX5_init 1 = .ok (.invokespecial 3, 3) := by decide +kernel
theorem dX5_init_4 : decode cX5_init 4 = .ok (.aload_n 0, 1) := by decide +kernel
theorem dX5_init_5 : decode cX5_init 5 = .ok (.bipush 20, 2) := by decide +kernel
theorem dX5_init_7 : decode cX5_init 7 = .ok (.anewarray 9, 3) := by decide +kernel
theorem dX5_init_10 : decode cX5_init 10 = .ok (.putfield 11, 3) := by decide +kernel
theorem dX5_init_13 : decode cX5_init 13 = .ok (.iconst 0, 1) := by decide +kernel
theorem dX5_init_14 : decode cX5_init 14 = .ok (.istore_n 1, 1) := by decide +kernel
theorem dX5_init_15 : decode cX5_init 15 = .ok (.iload_n 1, 1) := by decide +kernel
theorem dX5_init_16 : decode cX5_init 16 = .ok (.bipush 20, 2) := by decide +kernel
theorem dX5_init_18 : decode cX5_init 18 = .ok (.if_icmp .ge 22, 3) := by decide +kernel
theorem dX5_init_21 : decode cX5_init 21 = .ok (.aload_n 0, 1) := by decide +kernel
theorem dX5_init_22 : decode cX5_init 22 = .ok (.getfield 11, 3) := by decide +kernel
theorem dX5_init_25 : decode cX5_init 25 = .ok (.iload_n 1, 1) := by decide +kernel
theorem dX5_init_26 : decode cX5_init 26 = .ok (.new 9, 3) := by decide +kernel
theorem dX5_init_29 : decode cX5_init 29 = .ok (.dup, 1) := by decide +kernel
theorem dX5_init_30 : decode cX5_init 30 = .ok (.invokespecial 17, 3) := by decide +kernel
theorem dX5_init_33 : decode cX5_init 33 = .ok (.aastore, 1) := by decide +kernel
theorem dX5_init_34 : decode cX5_init 34 = .ok (.iinc 1 1, 3) := by decide +kernel
theorem dX5_init_37 : decode cX5_init 37 = .ok (.goto (-22), 3) := by decide +kernel
theorem dX5_init_40 : decode cX5_init 40 = .ok (.return_, 1) := by decide +kernel
theorem dX5_clear_0 : decode cX5_clear 0 = .ok (.aload_n 0, 1) := by decide +kernel
theorem dX5_clear_1 : decode cX5_clear 1 = .ok (.iconst 0, 1) := by decide +kernel
theorem dX5_clear_2 : decode cX5_clear 2 = .ok (.putfield 18, 3) := by decide +kernel
theorem dX5_clear_5 : decode cX5_clear 5 = .ok (.aload_n 0, 1) := by decide +kernel
theorem dX5_clear_6 : decode cX5_clear 6 = .ok (.iconst 0, 1) := by decide +kernel
theorem dX5_clear_7 : decode cX5_clear 7 = .ok (.putfield 22, 3) := by decide +kernel
theorem dX5_clear_10 : decode cX5_clear 10 = .ok (.return_, 1) := by decide +kernel
theorem dX5_push_0 : decode cX5_push 0 = .ok (.aload_n 0, 1) := by decide +kernel
theorem dX5_push_1 : decode cX5_push 1 = .ok (.getfield 11, 3) := by decide +kernel
theorem dX5_push_4 : decode cX5_push 4 = .ok (.aload_n 0, 1) := by decide +kernel
theorem dX5_push_5 : decode cX5_push 5 = .ok (.getfield 18, 3) := by decide +kernel
theorem dX5_push_8 : decode cX5_push 8 = .ok (.aaload, 1) := by decide +kernel
theorem dX5_push_9 : decode cX5_push 9 = .ok (.aload_n 1, 1) := by decide +kernel
theorem dX5_push_10 : decode cX5_push 10 = .ok (.invokevirtual 25, 3) := by decide +kernel
theorem dX5_push_13 : decode cX5_push 13 = .ok (.aload_n 0, 1) := by decide +kernel
theorem dX5_push_14 : decode cX5_push 14 = .ok (.aload_n 0, 1) := by decide +kernel
theorem dX5_push_15 : decode cX5_push 15 = .ok (.getfield 18, 3) := by decide +kernel
theorem dX5_push_18 : decode cX5_push 18 = .ok (.iconst 1, 1) := by decide +kernel
theorem dX5_push_19 : decode cX5_push 19 = .ok (.iadd, 1) := by decide +kernel
theorem dX5_push_20 : decode cX5_push 20 = .ok (.bipush 20, 2) := by decide +kernel
theorem dX5_push_22 : decode cX5_push 22 = .ok (.if_icmp .ge 12, 3) := by decide +kernel
theorem dX5_push_25 : decode cX5_push 25 = .ok (.aload_n 0, 1) := by decide +kernel
theorem dX5_push_26 : decode cX5_push 26 = .ok (.getfield 18, 3) := by decide +kernel
theorem dX5_push_29 : decode cX5_push 29 = .ok (.iconst 1, 1) := by decide +kernel
theorem dX5_push_30 : decode cX5_push 30 = .ok (.iadd, 1) := by decide +kernel
theorem dX5_push_31 : decode cX5_push 31 = .ok (.goto 4, 3) := by decide +kernel
theorem dX5_push_34 : decode cX5_push 34 = .ok (.iconst 0, 1) := by decide +kernel
theorem dX5_push_35 : decode cX5_push 35 = .ok (.putfield 18, 3) := by decide +kernel
theorem dX5_push_38 : decode cX5_push 38 = .ok (.aload_n 0, 1) := by decide +kernel
theorem dX5_push_39 : decode cX5_push 39 = .ok (.aload_n 0, 1) := by decide +kernel
theorem dX5_push_40 : decode cX5_push 40 = .ok (.getfield 22, 3) := by decide +kernel
theorem dX5_push_43 : decode cX5_push 43 = .ok (.iconst 1, 1) := by decide +kernel
theorem dX5_push_44 : decode cX5_push 44 = .ok (.iadd, 1) := by decide +kernel
theorem dX5_push_45 : decode cX5_push 45 = .ok (.bipush 20, 2) := by decide +kernel
theorem dX5_push_47 : decode cX5_push 47 = .ok (.invokestatic 29, 3) := by decide +kernel
theorem dX5_push_50 : decode cX5_push 50 = .ok (.putfield 22, 3) := by decide +kernel
theorem dX5_push_53 : decode cX5_push 53 = .ok (.return_, 1) := by decide +kernel
theorem dX5_pop_0 : decode cX5_pop 0 = .ok (.aload_n 0, 1) := by decide +kernel
theorem dX5_pop_1 : decode cX5_pop 1 = .ok (.getfield 22, 3) := by decide +kernel
theorem dX5_pop_4 : decode cX5_pop 4 = .ok (.ifCond .ne 4, 3) := by decide +kernel
theorem dX5_pop_7 : decode cX5_pop 7 = .ok (.return_, 1) := by decide +kernel
theorem dX5_pop_8 : decode cX5_pop 8 = .ok (.aload_n 0, 1) := by decide +kernel
theorem dX5_pop_9 : decode cX5_pop 9 = .ok (.aload_n 0, 1) := by decide +kernel
theorem dX5_pop_10 : decode cX5_pop 10 = .ok (.getfield 18, 3) := by decide +kernel
theorem dX5_pop_13 : decode cX5_pop 13 = .ok (.ifCond .le 12, 3) := by decide +kernel
theorem dX5_pop_16 : decode cX5_pop 16 = .ok (.aload_n 0, 1) := by decide +kernel
theorem dX5_pop_17 : decode cX5_pop 17 = .ok (.getfield 18, 3) := by decide +kernel
theorem dX5_pop_20 : decode cX5_pop 20 = .ok (.iconst 1, 1) := by decide +kernel
theorem dX5_pop_21 : decode cX5_pop 21 = .ok (.isub, 1) := by decide +kernel
theorem dX5_pop_22 : decode cX5_pop 22 = .ok (.goto 5, 3) := by decide +kernel
theorem dX5_pop_25 : decode cX5_pop 25 = .ok (.bipush 19, 2) := by decide +kernel
theorem dX5_pop_27 : decode cX5_pop 27 = .ok (.putfield 18, 3) := by decide +kernel
theorem dX5_pop_30 : decode cX5_pop 30 = .ok (.aload_n 0, 1) := by decide +kernel
theorem dX5_pop_31 : decode cX5_pop 31 = .ok (.dup, 1) := by decide +kernel
theorem dX5_pop_32 : decode cX5_pop 32 = .ok (.getfield 22, 3) := by decide +kernel
theorem dX5_pop_35 : decode cX5_pop 35 = .ok (.iconst 1, 1) := by decide +kernel
theorem dX5_pop_36 : decode cX5_pop 36 = .ok (.isub, 1) := by decide +kernel
theorem dX5_pop_37 : decode cX5_pop 37 = .ok (.putfield 22, 3) := by decide +kernel
theorem dX5_pop_40 : decode cX5_pop 40 = .ok (.aload_n 1, 1) := by decide +kernel
theorem dX5_pop_41 : decode cX5_pop 41 = .ok (.aload_n 0, 1) := by decide +kernel
theorem dX5_pop_42 : decode cX5_pop 42 = .ok (.getfield 11, 3) := by decide +kernel
theorem dX5_pop_45 : decode cX5_pop 45 = .ok (.aload_n 0, 1) := by decide +kernel
theorem dX5_pop_46 : decode cX5_pop 46 = .ok (.getfield 18, 3) := by decide +kernel
theorem dX5_pop_49 : decode cX5_pop 49 = .ok (.aaload, 1) := by decide +kernel
theorem dX5_pop_50 : decode cX5_pop 50 = .ok (.invokevirtual 25, 3) := by decide +kernel
theorem dX5_pop_53 : decode cX5_pop 53 = .ok (.return_, 1) := by decide +kernel
theorem dX6_init_0 : decode cX6_init 0 = .ok (.aload_n 0, 1) := by decide +kernel
theorem dX6_init_1 : decode cX6_init 1 = .ok (.invokespecial 3, 3) := by decide +kernel
theorem dX6_init_4 : decode cX6_init 4 = .ok (.aload_n 0, 1) := by decide +kernel
theorem dX6_init_5 : decode cX6_init 5 = .ok (.iconst 0, 1) := by decide +kernel
theorem dX6_init_6 : decode cX6_init 6 = .ok (.newarray .int, 2) := by decide +kernel
theorem dX6_init_8 : decode cX6_init 8 = .ok (.putfield 9, 3) := by decide +kernel
theorem dX6_init_11 : decode cX6_init 11 = .ok (.return_, 1) := by decide +kernel
theorem dX6_read_0 : decode cX6_read 0 = .ok (.aload_n 0, 1) := by decide +kernel
theorem dX6_read_1 : decode cX6_read 1 = .ok (.aload_n 1, 1) := by decide +kernel
theorem dX6_read_2 : decode cX6_read 2 = .ok (.putfield 9, 3) := by decide +kernel
theorem dX6_read_5 : decode cX6_read 5 = .ok (.aload_n 0, 1) := by decide +kernel
theorem dX6_read_6 : decode cX6_read 6 = .ok (.iload_n 2, 1) := by decide +kernel
theorem dX6_read_7 : decode cX6_read 7 = .ok (.aload_n 1, 1) := by decide +kernel
theorem dX6_read_8 : decode cX6_read 8 = .ok (.arraylength, 1) := by decide +kernel
theorem dX6_read_9 : decode cX6_read 9 = .ok (.invokestatic 15, 3) := by decide +kernel
theorem dX6_read_12 : decode cX6_read 12 = .ok (.putfield 21, 3) := by decide +kernel
theorem dX6_read_15 : decode cX6_read 15 = .ok (.aload_n 0, 1) := by decide +kernel
theorem dX6_read_16 : decode cX6_read 16 = .ok (.iconst 0, 1) := by decide +kernel
theorem dX6_read_17 : decode cX6_read 17 = .ok (.putfield 25, 3) := by decide +kernel
theorem dX6_read_20 : decode cX6_read 20 = .ok (.aload_n 0, 1) := by decide +kernel
theorem dX6_read_21 : decode cX6_read 21 = .ok (.iconst 0, 1) := by decide +kernel
theorem dX6_read_22 : decode cX6_read 22 = .ok (.putfield 28, 3) := by decide +kernel
theorem dX6_read_25 : decode cX6_read 25 = .ok (.aload_n 0, 1) := by decide +kernel
theorem dX6_read_26 : decode cX6_read 26 = .ok (.iconst (-1), 1) := by decide +kernel
theorem dX6_read_27 : decode cX6_read 27 = .ok (.putfield 31, 3) := by decide +kernel
theorem dX6_read_30 : decode cX6_read 30 = .ok (.aload_n 0, 1) := by decide +kernel
theorem dX6_read_31 : decode cX6_read 31 = .ok (.iconst 0, 1) := by decide +kernel
theorem dX6_read_32 : decode cX6_read 32 = .ok (.putfield 34, 3) := by decide +kernel
theorem dX6_read_35 : decode cX6_read 35 = .ok (.aload_n 0, 1) := by decide +kernel
theorem dX6_read_36 : decode cX6_read 36 = .ok (.iconst 0, 1) := by decide +kernel
theorem dX6_read_37 : decode cX6_read 37 = .ok (.putfield 38, 3) := by decide +kernel
theorem dX6_read_40 : decode cX6_read 40 = .ok (.aload_n 3, 1) := by decide +kernel
theorem dX6_read_41 : decode cX6_read 41 = .ok (.invokevirtual 41, 3) := by decide +kernel
theorem dX6_read_44 : decode cX6_read 44 = .ok (.aload_n 0, 1) := by decide +kernel
theorem dX6_read_45 : decode cX6_read 45 = .ok (.invokevirtual 46, 3) := by decide +kernel
theorem dX6_read_48 : decode cX6_read 48 = .ok (.iconst 0, 1) := by decide +kernel
theorem dX6_read_49 : decode cX6_read 49 = .ok (.istore 4, 2) := by decide +kernel
theorem dX6_read_51 : decode cX6_read 51 = .ok (.iload 4, 2) := by decide +kernel
theorem dX6_read_53 : decode cX6_read 53 = .ok (.sipush 230, 3) := by decide +kernel
theorem dX6_read_56 : decode cX6_read 56 = .ok (.if_icmp .ge 36, 3) := by decide +kernel
theorem dX6_read_59 : decode cX6_read 59 = .ok (.aload_n 0, 1) := by decide +kernel
theorem dX6_read_60 : decode cX6_read 60 = .ok (.getfield 25, 3) := by decide +kernel
theorem dX6_read_63 : decode cX6_read 63 = .ok (.aload_n 0, 1) := by decide +kernel
theorem dX6_read_64 : decode cX6_read 64 = .ok (.getfield 21, 3) := by decide +kernel
theorem dX6_read_67 : decode cX6_read 67 = .ok (.if_icmp .ge 25, 3) := by decide +kernel
theorem dX6_read_70 : decode cX6_read 70 = .ok (.aload_n 0, 1) := by decide +kernel
theorem dX6_read_71 : decode cX6_read 71 = .ok (.getfield 28, 3) := by decide +kernel
theorem dX6_read_74 : decode cX6_read 74 = .ok (.ifCond .ne 18, 3) := by decide +kernel
theorem dX6_read_77 : decode cX6_read 77 = .ok (.aload_n 0, 1) := by decide +kernel
theorem dX6_read_78 : decode cX6_read 78 = .ok (.aload_n 3, 1) := by decide +kernel
theorem dX6_read_79 : decode cX6_read 79 = .ok (.invokevirtual 49, 3) := by decide +kernel
theorem dX6_read_82 : decode cX6_read 82 = .ok (.aload_n 0, 1) := by decide +kernel
theorem dX6_read_83 : decode cX6_read 83 = .ok (.invokevirtual 46, 3) := by decide +kernel
theorem dX6_read_86 : decode cX6_read 86 = .ok (.iinc 4 1, 3) := by decide +kernel
theorem dX6_read_89 : decode cX6_read 89 = .ok (.goto (-38), 3) := by decide +kernel
theorem dX6_read_92 : decode cX6_read 92 = .ok (.aload_n 0, 1) := by decide +kernel
theorem dX6_read_93 : decode cX6_read 93 = .ok (.getfield 28, 3) := by decide +kernel
theorem dX6_read_96 : decode cX6_read 96 = .ok (.ireturn, 1) := by decide +kernel
theorem dX6_readClause_0 : decode cX6_readClause 0 = .ok (.aload_n 0, 1) := by decide +kernel
theorem dX6_readClause_1 : decode cX6_readClause 1 = .ok (.getfield 9, 3) := by decide +kernel
theorem dX6_readClause_4 : decode cX6_readClause 4 = .ok (.aload_n 0, 1) := by decide +kernel
theorem dX6_readClause_5 : decode cX6_readClause 5 = .ok (.getfield 25, 3) := by decide +kernel
theorem dX6_readClause_8 : decode cX6_readClause 8 = .ok (.iaload, 1) := by decide +kernel
theorem dX6_readClause_9 : decode cX6_readClause 9 = .ok (.istore_n 2, 1) := by decide +kernel
theorem dX6_readClause_10 : decode cX6_readClause 10 = .ok (.iload_n 2, 1) := by decide +kernel
theorem dX6_readClause_11 : decode cX6_readClause 11 = .ok (.bipush 98, 2) := by decide +kernel
theorem dX6_readClause_13 : decode cX6_readClause 13 = .ok (.if_icmp .eq 20, 3) := by decide +kernel
theorem dX6_readClause_16 : decode cX6_readClause 16 = .ok (.aload_n 1, 1) := by decide +kernel
theorem dX6_readClause_17 : decode cX6_readClause 17 = .ok (.getfield 53, 3) := by decide +kernel
theorem dX6_readClause_20 : decode cX6_readClause 20 = .ok (.ifCond .ne 13, 3) := by decide +kernel
theorem dX6_readClause_23 : decode cX6_readClause 23 = .ok (.aload_n 0, 1) := by decide +kernel
theorem dX6_readClause_24 : decode cX6_readClause 24 = .ok (.iconst 1, 1) := by decide +kernel
theorem dX6_readClause_25 : decode cX6_readClause 25 = .ok (.aload_n 0, 1) := by decide +kernel
theorem dX6_readClause_26 : decode cX6_readClause 26 = .ok (.getfield 25, 3) := by decide +kernel
theorem dX6_readClause_29 : decode cX6_readClause 29 = .ok (.invokevirtual 56, 3) := by decide +kernel
theorem dX6_readClause_32 : decode cX6_readClause 32 = .ok (.return_, 1) := by decide +kernel
theorem dX6_readClause_33 : decode cX6_readClause 33 = .ok (.iload_n 2, 1) := by decide +kernel
theorem dX6_readClause_34 : decode cX6_readClause 34 = .ok (.lookupswitch 74 #[(98, 42), (103, 66), (104, 50), (109, 58)], 42) := by decide +kernel
theorem dX6_readClause_76 : decode cX6_readClause 76 = .ok (.aload_n 0, 1) := by decide +kernel
theorem dX6_readClause_77 : decode cX6_readClause 77 = .ok (.aload_n 1, 1) := by decide +kernel
theorem dX6_readClause_78 : decode cX6_readClause 78 = .ok (.invokevirtual 60, 3) := by decide +kernel
theorem dX6_readClause_81 : decode cX6_readClause 81 = .ok (.goto 36, 3) := by decide +kernel
theorem dX6_readClause_84 : decode cX6_readClause 84 = .ok (.aload_n 0, 1) := by decide +kernel
theorem dX6_readClause_85 : decode cX6_readClause 85 = .ok (.aload_n 1, 1) := by decide +kernel
theorem dX6_readClause_86 : decode cX6_readClause 86 = .ok (.invokevirtual 63, 3) := by decide +kernel
theorem dX6_readClause_89 : decode cX6_readClause 89 = .ok (.goto 28, 3) := by decide +kernel
theorem dX6_readClause_92 : decode cX6_readClause 92 = .ok (.aload_n 0, 1) := by decide +kernel
theorem dX6_readClause_93 : decode cX6_readClause 93 = .ok (.aload_n 1, 1) := by decide +kernel
theorem dX6_readClause_94 : decode cX6_readClause 94 = .ok (.invokevirtual 66, 3) := by decide +kernel
theorem dX6_readClause_97 : decode cX6_readClause 97 = .ok (.goto 20, 3) := by decide +kernel
theorem dX6_readClause_100 : decode cX6_readClause 100 = .ok (.aload_n 0, 1) := by decide +kernel
theorem dX6_readClause_101 : decode cX6_readClause 101 = .ok (.aload_n 1, 1) := by decide +kernel
theorem dX6_readClause_102 : decode cX6_readClause 102 = .ok (.invokevirtual 69, 3) := by decide +kernel
theorem dX6_readClause_105 : decode cX6_readClause 105 = .ok (.goto 12, 3) := by decide +kernel
theorem dX6_readClause_108 : decode cX6_readClause 108 = .ok (.aload_n 0, 1) := by decide +kernel
theorem dX6_readClause_109 : decode cX6_readClause 109 = .ok (.iconst 1, 1) := by decide +kernel
theorem dX6_readClause_110 : decode cX6_readClause 110 = .ok (.aload_n 0, 1) := by decide +kernel
theorem dX6_readClause_111 : decode cX6_readClause 111 = .ok (.getfield 25, 3) := by decide +kernel
theorem dX6_readClause_114 : decode cX6_readClause 114 = .ok (.invokevirtual 56, 3) := by decide +kernel
theorem dX6_readClause_117 : decode cX6_readClause 117 = .ok (.return_, 1) := by decide +kernel
theorem dX6_readCells_0 : decode cX6_readCells 0 = .ok (.aload_n 0, 1) := by decide +kernel
theorem dX6_readCells_1 : decode cX6_readCells 1 = .ok (.aload_n 1, 1) := by decide +kernel
theorem dX6_readCells_2 : decode cX6_readCells 2 = .ok (.getfield 53, 3) := by decide +kernel
theorem dX6_readCells_5 : decode cX6_readCells 5 = .ok (.ifCond .le 7, 3) := by decide +kernel
theorem dX6_readCells_8 : decode cX6_readCells 8 = .ok (.iconst 1, 1) := by decide +kernel
theorem dX6_readCells_9 : decode cX6_readCells 9 = .ok (.goto 4, 3) := by decide +kernel
theorem dX6_readCells_12 : decode cX6_readCells 12 = .ok (.iconst 0, 1) := by decide +kernel
theorem dX6_readCells_13 : decode cX6_readCells 13 = .ok (.invokevirtual 72, 3) := by decide +kernel
theorem dX6_readCells_16 : decode cX6_readCells 16 = .ok (.aload_n 0, 1) := by decide +kernel
theorem dX6_readCells_17 : decode cX6_readCells 17 = .ok (.iconst 2, 1) := by decide +kernel
theorem dX6_readCells_18 : decode cX6_readCells 18 = .ok (.bipush 30, 2) := by decide +kernel
theorem dX6_readCells_20 : decode cX6_readCells 20 = .ok (.invokevirtual 76, 3) := by decide +kernel
theorem dX6_readCells_23 : decode cX6_readCells 23 = .ok (.istore_n 2, 1) := by decide +kernel
theorem dX6_readCells_24 : decode cX6_readCells 24 = .ok (.aload_n 0, 1) := by decide +kernel
theorem dX6_readCells_25 : decode cX6_readCells 25 = .ok (.iconst 0, 1) := by decide +kernel
theorem dX6_readCells_26 : decode cX6_readCells 26 = .ok (.bipush 20, 2) := by decide +kernel
theorem dX6_readCells_28 : decode cX6_readCells 28 = .ok (.invokevirtual 76, 3) := by decide +kernel
theorem dX6_readCells_31 : decode cX6_readCells 31 = .ok (.istore_n 3, 1) := by decide +kernel
theorem dX6_readCells_32 : decode cX6_readCells 32 = .ok (.aload_n 0, 1) := by decide +kernel
theorem dX6_readCells_33 : decode cX6_readCells 33 = .ok (.iconst 0, 1) := by decide +kernel
theorem dX6_readCells_34 : decode cX6_readCells 34 = .ok (.bipush 10, 2) := by decide +kernel
theorem dX6_readCells_36 : decode cX6_readCells 36 = .ok (.invokevirtual 76, 3) := by decide +kernel
theorem dX6_readCells_39 : decode cX6_readCells 39 = .ok (.istore 4, 2) := by decide +kernel
theorem dX6_readCells_41 : decode cX6_readCells 41 = .ok (.aload_n 0, 1) := by decide +kernel
theorem dX6_readCells_42 : decode cX6_readCells 42 = .ok (.invokevirtual 79, 3) := by decide +kernel
theorem dX6_readCells_45 : decode cX6_readCells 45 = .ok (.aload_n 0, 1) := by decide +kernel
theorem dX6_readCells_46 : decode cX6_readCells 46 = .ok (.getfield 28, 3) := by decide +kernel
theorem dX6_readCells_49 : decode cX6_readCells 49 = .ok (.ifCond .ne 21, 3) := by decide +kernel
theorem dX6_readCells_52 : decode cX6_readCells 52 = .ok (.aload_n 1, 1) := by decide +kernel
theorem dX6_readCells_53 : decode cX6_readCells 53 = .ok (.iload_n 2, 1) := by decide +kernel
theorem dX6_readCells_54 : decode cX6_readCells 54 = .ok (.putfield 53, 3) := by decide +kernel
theorem dX6_readCells_57 : decode cX6_readCells 57 = .ok (.aload_n 1, 1) := by decide +kernel
theorem dX6_readCells_58 : decode cX6_readCells 58 = .ok (.iload_n 3, 1) := by decide +kernel
theorem dX6_readCells_59 : decode cX6_readCells 59 = .ok (.putfield 82, 3) := by decide +kernel
theorem dX6_readCells_62 : decode cX6_readCells 62 = .ok (.aload_n 1, 1) := by decide +kernel
theorem dX6_readCells_63 : decode cX6_readCells 63 = .ok (.iload 4, 2) := by decide +kernel
theorem dX6_readCells_65 : decode cX6_readCells 65 = .ok (.iconst 5, 1) := by decide +kernel
theorem dX6_readCells_66 : decode cX6_readCells 66 = .ok (.isub, 1) := by decide +kernel
theorem dX6_readCells_67 : decode cX6_readCells 67 = .ok (.putfield 85, 3) := by decide +kernel
theorem dX6_readCells_70 : decode cX6_readCells 70 = .ok (.return_, 1) := by decide +kernel
theorem dX6_readHouse_0 : decode cX6_readHouse 0 = .ok (.aload_n 0, 1) := by decide +kernel
theorem dX6_readHouse_1 : decode cX6_readHouse 1 = .ok (.aload_n 1, 1) := by decide +kernel
theorem dX6_readHouse_2 : decode cX6_readHouse 2 = .ok (.getfield 88, 3) := by decide +kernel
theorem dX6_readHouse_5 : decode cX6_readHouse 5 = .ok (.bipush 8, 2) := by decide +kernel
theorem dX6_readHouse_7 : decode cX6_readHouse 7 = .ok (.if_icmp .lt 7, 3) := by decide +kernel
theorem dX6_readHouse_10 : decode cX6_readHouse 10 = .ok (.iconst 1, 1) := by decide +kernel
theorem dX6_readHouse_11 : decode cX6_readHouse 11 = .ok (.goto 4, 3) := by decide +kernel
theorem dX6_readHouse_14 : decode cX6_readHouse 14 = .ok (.iconst 0, 1) := by decide +kernel
theorem dX6_readHouse_15 : decode cX6_readHouse 15 = .ok (.invokevirtual 72, 3) := by decide +kernel
theorem dX6_readHouse_18 : decode cX6_readHouse 18 = .ok (.aload_n 0, 1) := by decide +kernel
theorem dX6_readHouse_19 : decode cX6_readHouse 19 = .ok (.iconst 0, 1) := by decide +kernel
theorem dX6_readHouse_20 : decode cX6_readHouse 20 = .ok (.aload_n 1, 1) := by decide +kernel
theorem dX6_readHouse_21 : decode cX6_readHouse 21 = .ok (.getfield 53, 3) := by decide +kernel
theorem dX6_readHouse_24 : decode cX6_readHouse 24 = .ok (.iconst 1, 1) := by decide +kernel
theorem dX6_readHouse_25 : decode cX6_readHouse 25 = .ok (.isub, 1) := by decide +kernel
theorem dX6_readHouse_26 : decode cX6_readHouse 26 = .ok (.invokevirtual 76, 3) := by decide +kernel
theorem dX6_readHouse_29 : decode cX6_readHouse 29 = .ok (.istore_n 2, 1) := by decide +kernel
theorem dX6_readHouse_30 : decode cX6_readHouse 30 = .ok (.aload_n 1, 1) := by decide +kernel
theorem dX6_readHouse_31 : decode cX6_readHouse 31 = .ok (.iload_n 2, 1) := by decide +kernel
theorem dX6_readHouse_32 : decode cX6_readHouse 32 = .ok (.invokevirtual 91, 3) := by decide +kernel
theorem dX6_readHouse_35 : decode cX6_readHouse 35 = .ok (.iconst (-1), 1) := by decide +kernel
theorem dX6_readHouse_36 : decode cX6_readHouse 36 = .ok (.if_icmp .eq 12, 3) := by decide +kernel
theorem dX6_readHouse_39 : decode cX6_readHouse 39 = .ok (.aload_n 0, 1) := by decide +kernel
theorem dX6_readHouse_40 : decode cX6_readHouse 40 = .ok (.iconst 4, 1) := by decide +kernel
theorem dX6_readHouse_41 : decode cX6_readHouse 41 = .ok (.aload_n 0, 1) := by decide +kernel
theorem dX6_readHouse_42 : decode cX6_readHouse 42 = .ok (.getfield 95, 3) := by decide +kernel
theorem dX6_readHouse_45 : decode cX6_readHouse 45 = .ok (.invokevirtual 56, 3) := by decide +kernel
theorem dX6_readHouse_48 : decode cX6_readHouse 48 = .ok (.aload_n 0, 1) := by decide +kernel
theorem dX6_readHouse_49 : decode cX6_readHouse 49 = .ok (.iconst 1, 1) := by decide +kernel
theorem dX6_readHouse_50 : decode cX6_readHouse 50 = .ok (.bipush 9, 2) := by decide +kernel
theorem dX6_readHouse_52 : decode cX6_readHouse 52 = .ok (.invokevirtual 76, 3) := by decide +kernel
theorem dX6_readHouse_55 : decode cX6_readHouse 55 = .ok (.istore_n 3, 1) := by decide +kernel
theorem dX6_readHouse_56 : decode cX6_readHouse 56 = .ok (.aload_n 0, 1) := by decide +kernel
theorem dX6_readHouse_57 : decode cX6_readHouse 57 = .ok (.iconst 0, 1) := by decide +kernel
theorem dX6_readHouse_58 : decode cX6_readHouse 58 = .ok (.bipush 9, 2) := by decide +kernel
theorem dX6_readHouse_60 : decode cX6_readHouse 60 = .ok (.invokevirtual 76, 3) := by decide +kernel
theorem dX6_readHouse_63 : decode cX6_readHouse 63 = .ok (.istore 4, 2) := by decide +kernel
theorem dX6_readHouse_65 : decode cX6_readHouse 65 = .ok (.aload_n 0, 1) := by decide +kernel
theorem dX6_readHouse_66 : decode cX6_readHouse 66 = .ok (.aload_n 1, 1) := by decide +kernel
theorem dX6_readHouse_67 : decode cX6_readHouse 67 = .ok (.invokevirtual 98, 3) := by decide +kernel
theorem dX6_readHouse_70 : decode cX6_readHouse 70 = .ok (.istore 5, 2) := by decide +kernel
theorem dX6_readHouse_72 : decode cX6_readHouse 72 = .ok (.aload_n 0, 1) := by decide +kernel
theorem dX6_readHouse_73 : decode cX6_readHouse 73 = .ok (.invokevirtual 79, 3) := by decide +kernel
theorem dX6_readHouse_76 : decode cX6_readHouse 76 = .ok (.aload_n 0, 1) := by decide +kernel
theorem dX6_readHouse_77 : decode cX6_readHouse 77 = .ok (.getfield 28, 3) := by decide +kernel
theorem dX6_readHouse_80 : decode cX6_readHouse 80 = .ok (.ifCond .ne 13, 3) := by decide +kernel
theorem dX6_readHouse_83 : decode cX6_readHouse 83 = .ok (.aload_n 1, 1) := by decide +kernel
theorem dX6_readHouse_84 : decode cX6_readHouse 84 = .ok (.iload_n 2, 1) := by decide +kernel
theorem dX6_readHouse_85 : decode cX6_readHouse 85 = .ok (.iload_n 3, 1) := by decide +kernel
theorem dX6_readHouse_86 : decode cX6_readHouse 86 = .ok (.iload 4, 2) := by decide +kernel
theorem dX6_readHouse_88 : decode cX6_readHouse 88 = .ok (.iload 5, 2) := by decide +kernel
theorem dX6_readHouse_90 : decode cX6_readHouse 90 = .ok (.invokevirtual 102, 3) := by decide +kernel
theorem dX6_readHouse_93 : decode cX6_readHouse 93 = .ok (.return_, 1) := by decide +kernel
theorem dX6_readSmoke_0 : decode cX6_readSmoke 0 = .ok (.aload_n 0, 1) := by decide +kernel
theorem dX6_readSmoke_1 : decode cX6_readSmoke 1 = .ok (.aload_n 0, 1) := by decide +kernel
theorem dX6_readSmoke_2 : decode cX6_readSmoke 2 = .ok (.getfield 34, 3) := by decide +kernel
theorem dX6_readSmoke_5 : decode cX6_readSmoke 5 = .ok (.invokevirtual 72, 3) := by decide +kernel
theorem dX6_readSmoke_8 : decode cX6_readSmoke 8 = .ok (.aload_n 0, 1) := by decide +kernel
theorem dX6_readSmoke_9 : decode cX6_readSmoke 9 = .ok (.iconst 0, 1) := by decide +kernel
theorem dX6_readSmoke_10 : decode cX6_readSmoke 10 = .ok (.bipush 9, 2) := by decide +kernel
theorem dX6_readSmoke_12 : decode cX6_readSmoke 12 = .ok (.invokevirtual 76, 3) := by decide +kernel
theorem dX6_readSmoke_15 : decode cX6_readSmoke 15 = .ok (.istore_n 2, 1) := by decide +kernel
theorem dX6_readSmoke_16 : decode cX6_readSmoke 16 = .ok (.aload_n 0, 1) := by decide +kernel
theorem dX6_readSmoke_17 : decode cX6_readSmoke 17 = .ok (.invokevirtual 79, 3) := by decide +kernel
theorem dX6_readSmoke_20 : decode cX6_readSmoke 20 = .ok (.aload_n 0, 1) := by decide +kernel
theorem dX6_readSmoke_21 : decode cX6_readSmoke 21 = .ok (.getfield 28, 3) := by decide +kernel
theorem dX6_readSmoke_24 : decode cX6_readSmoke 24 = .ok (.ifCond .ne 13, 3) := by decide +kernel
theorem dX6_readSmoke_27 : decode cX6_readSmoke 27 = .ok (.aload_n 1, 1) := by decide +kernel
theorem dX6_readSmoke_28 : decode cX6_readSmoke 28 = .ok (.iload_n 2, 1) := by decide +kernel
theorem dX6_readSmoke_29 : decode cX6_readSmoke 29 = .ok (.putfield 106, 3) := by decide +kernel
theorem dX6_readSmoke_32 : decode cX6_readSmoke 32 = .ok (.aload_n 0, 1) := by decide +kernel
theorem dX6_readSmoke_33 : decode cX6_readSmoke 33 = .ok (.iconst 1, 1) := by decide +kernel
theorem dX6_readSmoke_34 : decode cX6_readSmoke 34 = .ok (.putfield 34, 3) := by decide +kernel
theorem dX6_readSmoke_37 : decode cX6_readSmoke 37 = .ok (.return_, 1) := by decide +kernel
theorem dX6_readDamp_0 : decode cX6_readDamp 0 = .ok (.aload_n 0, 1) := by decide +kernel
theorem dX6_readDamp_1 : decode cX6_readDamp 1 = .ok (.aload_n 0, 1) := by decide +kernel
theorem dX6_readDamp_2 : decode cX6_readDamp 2 = .ok (.getfield 38, 3) := by decide +kernel
theorem dX6_readDamp_5 : decode cX6_readDamp 5 = .ok (.invokevirtual 72, 3) := by decide +kernel
theorem dX6_readDamp_8 : decode cX6_readDamp 8 = .ok (.aload_n 0, 1) := by decide +kernel
theorem dX6_readDamp_9 : decode cX6_readDamp 9 = .ok (.iconst 0, 1) := by decide +kernel
theorem dX6_readDamp_10 : decode cX6_readDamp 10 = .ok (.bipush 100, 2) := by decide +kernel
theorem dX6_readDamp_12 : decode cX6_readDamp 12 = .ok (.invokevirtual 76, 3) := by decide +kernel
theorem dX6_readDamp_15 : decode cX6_readDamp 15 = .ok (.istore_n 2, 1) := by decide +kernel
theorem dX6_readDamp_16 : decode cX6_readDamp 16 = .ok (.aload_n 0, 1) := by decide +kernel
theorem dX6_readDamp_17 : decode cX6_readDamp 17 = .ok (.invokevirtual 79, 3) := by decide +kernel
theorem dX6_readDamp_20 : decode cX6_readDamp 20 = .ok (.aload_n 0, 1) := by decide +kernel
theorem dX6_readDamp_21 : decode cX6_readDamp 21 = .ok (.getfield 28, 3) := by decide +kernel
theorem dX6_readDamp_24 : decode cX6_readDamp 24 = .ok (.ifCond .ne 13, 3) := by decide +kernel
theorem dX6_readDamp_27 : decode cX6_readDamp 27 = .ok (.aload_n 1, 1) := by decide +kernel
theorem dX6_readDamp_28 : decode cX6_readDamp 28 = .ok (.iload_n 2, 1) := by decide +kernel
theorem dX6_readDamp_29 : decode cX6_readDamp 29 = .ok (.putfield 109, 3) := by decide +kernel
theorem dX6_readDamp_32 : decode cX6_readDamp 32 = .ok (.aload_n 0, 1) := by decide +kernel
theorem dX6_readDamp_33 : decode cX6_readDamp 33 = .ok (.iconst 1, 1) := by decide +kernel
theorem dX6_readDamp_34 : decode cX6_readDamp 34 = .ok (.putfield 38, 3) := by decide +kernel
theorem dX6_readDamp_37 : decode cX6_readDamp 37 = .ok (.return_, 1) := by decide +kernel
theorem dX6_passWord_0 : decode cX6_passWord 0 = .ok (.iload_n 1, 1) := by decide +kernel
theorem dX6_passWord_1 : decode cX6_passWord 1 = .ok (.ifCond .eq 12, 3) := by decide +kernel
theorem dX6_passWord_4 : decode cX6_passWord 4 = .ok (.aload_n 0, 1) := by decide +kernel
theorem dX6_passWord_5 : decode cX6_passWord 5 = .ok (.iconst 3, 1) := by decide +kernel
theorem dX6_passWord_6 : decode cX6_passWord 6 = .ok (.aload_n 0, 1) := by decide +kernel
theorem dX6_passWord_7 : decode cX6_passWord 7 = .ok (.getfield 25, 3) := by decide +kernel
theorem dX6_passWord_10 : decode cX6_passWord 10 = .ok (.invokevirtual 56, 3) := by decide +kernel
theorem dX6_passWord_13 : decode cX6_passWord 13 = .ok (.aload_n 0, 1) := by decide +kernel
theorem dX6_passWord_14 : decode cX6_passWord 14 = .ok (.dup, 1) := by decide +kernel
theorem dX6_passWord_15 : decode cX6_passWord 15 = .ok (.getfield 25, 3) := by decide +kernel
theorem dX6_passWord_18 : decode cX6_passWord 18 = .ok (.iconst 1, 1) := by decide +kernel
theorem dX6_passWord_19 : decode cX6_passWord 19 = .ok (.iadd, 1) := by decide +kernel
theorem dX6_passWord_20 : decode cX6_passWord 20 = .ok (.putfield 25, 3) := by decide +kernel
theorem dX6_passWord_23 : decode cX6_passWord 23 = .ok (.return_, 1) := by decide +kernel
theorem dX6_passEnd_0 : decode cX6_passEnd 0 = .ok (.aload_n 0, 1) := by decide +kernel
theorem dX6_passEnd_1 : decode cX6_passEnd 1 = .ok (.invokevirtual 46, 3) := by decide +kernel
theorem dX6_passEnd_4 : decode cX6_passEnd 4 = .ok (.aload_n 0, 1) := by decide +kernel
theorem dX6_passEnd_5 : decode cX6_passEnd 5 = .ok (.getfield 25, 3) := by decide +kernel
theorem dX6_passEnd_8 : decode cX6_passEnd 8 = .ok (.aload_n 0, 1) := by decide +kernel
theorem dX6_passEnd_9 : decode cX6_passEnd 9 = .ok (.getfield 21, 3) := by decide +kernel
theorem dX6_passEnd_12 : decode cX6_passEnd 12 = .ok (.if_icmp .ge 17, 3) := by decide +kernel
theorem dX6_passEnd_15 : decode cX6_passEnd 15 = .ok (.aload_n 0, 1) := by decide +kernel
theorem dX6_passEnd_16 : decode cX6_passEnd 16 = .ok (.getfield 9, 3) := by decide +kernel
theorem dX6_passEnd_19 : decode cX6_passEnd 19 = .ok (.aload_n 0, 1) := by decide +kernel
theorem dX6_passEnd_20 : decode cX6_passEnd 20 = .ok (.getfield 25, 3) := by decide +kernel
theorem dX6_passEnd_23 : decode cX6_passEnd 23 = .ok (.iaload, 1) := by decide +kernel
theorem dX6_passEnd_24 : decode cX6_passEnd 24 = .ok (.bipush 59, 2) := by decide +kernel
theorem dX6_passEnd_26 : decode cX6_passEnd 26 = .ok (.if_icmp .eq 13, 3) := by decide +kernel
theorem dX6_passEnd_29 : decode cX6_passEnd 29 = .ok (.aload_n 0, 1) := by decide +kernel
theorem dX6_passEnd_30 : decode cX6_passEnd 30 = .ok (.iconst 1, 1) := by decide +kernel
theorem dX6_passEnd_31 : decode cX6_passEnd 31 = .ok (.aload_n 0, 1) := by decide +kernel
theorem dX6_passEnd_32 : decode cX6_passEnd 32 = .ok (.getfield 25, 3) := by decide +kernel
theorem dX6_passEnd_35 : decode cX6_passEnd 35 = .ok (.invokevirtual 56, 3) := by decide +kernel
theorem dX6_passEnd_38 : decode cX6_passEnd 38 = .ok (.return_, 1) := by decide +kernel
theorem dX6_passEnd_39 : decode cX6_passEnd 39 = .ok (.aload_n 0, 1) := by decide +kernel
theorem dX6_passEnd_40 : decode cX6_passEnd 40 = .ok (.dup, 1) := by decide +kernel
theorem dX6_passEnd_41 : decode cX6_passEnd 41 = .ok (.getfield 25, 3) := by decide +kernel
theorem dX6_passEnd_44 : decode cX6_passEnd 44 = .ok (.iconst 1, 1) := by decide +kernel
theorem dX6_passEnd_45 : decode cX6_passEnd 45 = .ok (.iadd, 1) := by decide +kernel
theorem dX6_passEnd_46 : decode cX6_passEnd 46 = .ok (.putfield 25, 3) := by decide +kernel
theorem dX6_passEnd_49 : decode cX6_passEnd 49 = .ok (.return_, 1) := by decide +kernel
theorem dX6_readNumber_0 : decode cX6_readNumber 0 = .ok (.aload_n 0, 1) := by decide +kernel
theorem dX6_readNumber_1 : decode cX6_readNumber 1 = .ok (.getfield 28, 3) := by decide +kernel
theorem dX6_readNumber_4 : decode cX6_readNumber 4 = .ok (.ifCond .eq 5, 3) := by decide +kernel
theorem dX6_readNumber_7 : decode cX6_readNumber 7 = .ok (.iconst (-1), 1) := by decide +kernel
theorem dX6_readNumber_8 : decode cX6_readNumber 8 = .ok (.ireturn, 1) := by decide +kernel
theorem dX6_readNumber_9 : decode cX6_readNumber 9 = .ok (.aload_n 0, 1) := by decide +kernel
theorem dX6_readNumber_10 : decode cX6_readNumber 10 = .ok (.invokevirtual 46, 3) := by decide +kernel
theorem dX6_readNumber_13 : decode cX6_readNumber 13 = .ok (.aload_n 0, 1) := by decide +kernel
theorem dX6_readNumber_14 : decode cX6_readNumber 14 = .ok (.aload_n 0, 1) := by decide +kernel
theorem dX6_readNumber_15 : decode cX6_readNumber 15 = .ok (.getfield 25, 3) := by decide +kernel
theorem dX6_readNumber_18 : decode cX6_readNumber 18 = .ok (.putfield 95, 3) := by decide +kernel
theorem dX6_readNumber_21 : decode cX6_readNumber 21 = .ok (.iconst 0, 1) := by decide +kernel
theorem dX6_readNumber_22 : decode cX6_readNumber 22 = .ok (.istore_n 3, 1) := by decide +kernel
theorem dX6_readNumber_23 : decode cX6_readNumber 23 = .ok (.aload_n 0, 1) := by decide +kernel
theorem dX6_readNumber_24 : decode cX6_readNumber 24 = .ok (.getfield 25, 3) := by decide +kernel
theorem dX6_readNumber_27 : decode cX6_readNumber 27 = .ok (.aload_n 0, 1) := by decide +kernel
theorem dX6_readNumber_28 : decode cX6_readNumber 28 = .ok (.getfield 21, 3) := by decide +kernel
theorem dX6_readNumber_31 : decode cX6_readNumber 31 = .ok (.if_icmp .ge 62, 3) := by decide +kernel
theorem dX6_readNumber_34 : decode cX6_readNumber 34 = .ok (.aload_n 0, 1) := by decide +kernel
theorem dX6_readNumber_35 : decode cX6_readNumber 35 = .ok (.getfield 9, 3) := by decide +kernel
theorem dX6_readNumber_38 : decode cX6_readNumber 38 = .ok (.aload_n 0, 1) := by decide +kernel
theorem dX6_readNumber_39 : decode cX6_readNumber 39 = .ok (.getfield 25, 3) := by decide +kernel
theorem dX6_readNumber_42 : decode cX6_readNumber 42 = .ok (.iaload, 1) := by decide +kernel
theorem dX6_readNumber_43 : decode cX6_readNumber 43 = .ok (.bipush 48, 2) := by decide +kernel
theorem dX6_readNumber_45 : decode cX6_readNumber 45 = .ok (.if_icmp .lt 48, 3) := by decide +kernel
theorem dX6_readNumber_48 : decode cX6_readNumber 48 = .ok (.aload_n 0, 1) := by decide +kernel
theorem dX6_readNumber_49 : decode cX6_readNumber 49 = .ok (.getfield 9, 3) := by decide +kernel
theorem dX6_readNumber_52 : decode cX6_readNumber 52 = .ok (.aload_n 0, 1) := by decide +kernel
theorem dX6_readNumber_53 : decode cX6_readNumber 53 = .ok (.getfield 25, 3) := by decide +kernel
theorem dX6_readNumber_56 : decode cX6_readNumber 56 = .ok (.iaload, 1) := by decide +kernel
theorem dX6_readNumber_57 : decode cX6_readNumber 57 = .ok (.bipush 57, 2) := by decide +kernel
theorem dX6_readNumber_59 : decode cX6_readNumber 59 = .ok (.if_icmp .gt 34, 3) := by decide +kernel
theorem dX6_readNumber_62 : decode cX6_readNumber 62 = .ok (.iload_n 3, 1) := by decide +kernel
theorem dX6_readNumber_63 : decode cX6_readNumber 63 = .ok (.bipush 10, 2) := by decide +kernel
theorem dX6_readNumber_65 : decode cX6_readNumber 65 = .ok (.imul, 1) := by decide +kernel
theorem dX6_readNumber_66 : decode cX6_readNumber 66 = .ok (.aload_n 0, 1) := by decide +kernel
theorem dX6_readNumber_67 : decode cX6_readNumber 67 = .ok (.getfield 9, 3) := by decide +kernel
theorem dX6_readNumber_70 : decode cX6_readNumber 70 = .ok (.aload_n 0, 1) := by decide +kernel
theorem dX6_readNumber_71 : decode cX6_readNumber 71 = .ok (.getfield 25, 3) := by decide +kernel
theorem dX6_readNumber_74 : decode cX6_readNumber 74 = .ok (.iaload, 1) := by decide +kernel
theorem dX6_readNumber_75 : decode cX6_readNumber 75 = .ok (.iadd, 1) := by decide +kernel
theorem dX6_readNumber_76 : decode cX6_readNumber 76 = .ok (.bipush 48, 2) := by decide +kernel
theorem dX6_readNumber_78 : decode cX6_readNumber 78 = .ok (.isub, 1) := by decide +kernel
theorem dX6_readNumber_79 : decode cX6_readNumber 79 = .ok (.istore_n 3, 1) := by decide +kernel
theorem dX6_readNumber_80 : decode cX6_readNumber 80 = .ok (.aload_n 0, 1) := by decide +kernel
theorem dX6_readNumber_81 : decode cX6_readNumber 81 = .ok (.dup, 1) := by decide +kernel
theorem dX6_readNumber_82 : decode cX6_readNumber 82 = .ok (.getfield 25, 3) := by decide +kernel
theorem dX6_readNumber_85 : decode cX6_readNumber 85 = .ok (.iconst 1, 1) := by decide +kernel
theorem dX6_readNumber_86 : decode cX6_readNumber 86 = .ok (.iadd, 1) := by decide +kernel
theorem dX6_readNumber_87 : decode cX6_readNumber 87 = .ok (.putfield 25, 3) := by decide +kernel
theorem dX6_readNumber_90 : decode cX6_readNumber 90 = .ok (.goto (-67), 3) := by decide +kernel
theorem dX6_readNumber_93 : decode cX6_readNumber 93 = .ok (.aload_n 0, 1) := by decide +kernel
theorem dX6_readNumber_94 : decode cX6_readNumber 94 = .ok (.getfield 25, 3) := by decide +kernel
theorem dX6_readNumber_97 : decode cX6_readNumber 97 = .ok (.aload_n 0, 1) := by decide +kernel
theorem dX6_readNumber_98 : decode cX6_readNumber 98 = .ok (.getfield 95, 3) := by decide +kernel
theorem dX6_readNumber_101 : decode cX6_readNumber 101 = .ok (.isub, 1) := by decide +kernel
theorem dX6_readNumber_102 : decode cX6_readNumber 102 = .ok (.istore 4, 2) := by decide +kernel
theorem dX6_readNumber_104 : decode cX6_readNumber 104 = .ok (.iload 4, 2) := by decide +kernel
theorem dX6_readNumber_106 : decode cX6_readNumber 106 = .ok (.ifCond .ne 14, 3) := by decide +kernel
theorem dX6_readNumber_109 : decode cX6_readNumber 109 = .ok (.aload_n 0, 1) := by decide +kernel
theorem dX6_readNumber_110 : decode cX6_readNumber 110 = .ok (.iconst 1, 1) := by decide +kernel
theorem dX6_readNumber_111 : decode cX6_readNumber 111 = .ok (.aload_n 0, 1) := by decide +kernel
theorem dX6_readNumber_112 : decode cX6_readNumber 112 = .ok (.getfield 25, 3) := by decide +kernel
theorem dX6_readNumber_115 : decode cX6_readNumber 115 = .ok (.invokevirtual 56, 3) := by decide +kernel
theorem dX6_readNumber_118 : decode cX6_readNumber 118 = .ok (.iconst (-1), 1) := by decide +kernel
theorem dX6_readNumber_119 : decode cX6_readNumber 119 = .ok (.ireturn, 1) := by decide +kernel
theorem dX6_readNumber_120 : decode cX6_readNumber 120 = .ok (.iload 4, 2) := by decide +kernel
theorem dX6_readNumber_122 : decode cX6_readNumber 122 = .ok (.iconst 3, 1) := by decide +kernel
theorem dX6_readNumber_123 : decode cX6_readNumber 123 = .ok (.if_icmp .gt 13, 3) := by decide +kernel
theorem dX6_readNumber_126 : decode cX6_readNumber 126 = .ok (.iload_n 3, 1) := by decide +kernel
theorem dX6_readNumber_127 : decode cX6_readNumber 127 = .ok (.iload_n 1, 1) := by decide +kernel
theorem dX6_readNumber_128 : decode cX6_readNumber 128 = .ok (.if_icmp .lt 8, 3) := by decide +kernel
theorem dX6_readNumber_131 : decode cX6_readNumber 131 = .ok (.iload_n 3, 1) := by decide +kernel
theorem dX6_readNumber_132 : decode cX6_readNumber 132 = .ok (.iload_n 2, 1) := by decide +kernel
theorem dX6_readNumber_133 : decode cX6_readNumber 133 = .ok (.if_icmp .le 14, 3) := by decide +kernel
theorem dX6_readNumber_136 : decode cX6_readNumber 136 = .ok (.aload_n 0, 1) := by decide +kernel
theorem dX6_readNumber_137 : decode cX6_readNumber 137 = .ok (.iconst 2, 1) := by decide +kernel
theorem dX6_readNumber_138 : decode cX6_readNumber 138 = .ok (.aload_n 0, 1) := by decide +kernel
theorem dX6_readNumber_139 : decode cX6_readNumber 139 = .ok (.getfield 95, 3) := by decide +kernel
theorem dX6_readNumber_142 : decode cX6_readNumber 142 = .ok (.invokevirtual 56, 3) := by decide +kernel
theorem dX6_readNumber_145 : decode cX6_readNumber 145 = .ok (.iconst (-1), 1) := by decide +kernel
theorem dX6_readNumber_146 : decode cX6_readNumber 146 = .ok (.ireturn, 1) := by decide +kernel
theorem dX6_readNumber_147 : decode cX6_readNumber 147 = .ok (.iload_n 3, 1) := by decide +kernel
theorem dX6_readNumber_148 : decode cX6_readNumber 148 = .ok (.ireturn, 1) := by decide +kernel
theorem dX6_readStars_0 : decode cX6_readStars 0 = .ok (.aload_n 0, 1) := by decide +kernel
theorem dX6_readStars_1 : decode cX6_readStars 1 = .ok (.getfield 28, 3) := by decide +kernel
theorem dX6_readStars_4 : decode cX6_readStars 4 = .ok (.ifCond .eq 5, 3) := by decide +kernel
theorem dX6_readStars_7 : decode cX6_readStars 7 = .ok (.iconst (-1), 1) := by decide +kernel
theorem dX6_readStars_8 : decode cX6_readStars 8 = .ok (.ireturn, 1) := by decide +kernel
theorem dX6_readStars_9 : decode cX6_readStars 9 = .ok (.aload_n 0, 1) := by decide +kernel
theorem dX6_readStars_10 : decode cX6_readStars 10 = .ok (.invokevirtual 46, 3) := by decide +kernel
theorem dX6_readStars_13 : decode cX6_readStars 13 = .ok (.aload_n 0, 1) := by decide +kernel
theorem dX6_readStars_14 : decode cX6_readStars 14 = .ok (.getfield 25, 3) := by decide +kernel
theorem dX6_readStars_17 : decode cX6_readStars 17 = .ok (.istore_n 2, 1) := by decide +kernel
theorem dX6_readStars_18 : decode cX6_readStars 18 = .ok (.iconst 0, 1) := by decide +kernel
theorem dX6_readStars_19 : decode cX6_readStars 19 = .ok (.istore_n 3, 1) := by decide +kernel
theorem dX6_readStars_20 : decode cX6_readStars 20 = .ok (.aload_n 0, 1) := by decide +kernel
theorem dX6_readStars_21 : decode cX6_readStars 21 = .ok (.getfield 25, 3) := by decide +kernel
theorem dX6_readStars_24 : decode cX6_readStars 24 = .ok (.aload_n 0, 1) := by decide +kernel
theorem dX6_readStars_25 : decode cX6_readStars 25 = .ok (.getfield 21, 3) := by decide +kernel
theorem dX6_readStars_28 : decode cX6_readStars 28 = .ok (.if_icmp .ge 74, 3) := by decide +kernel
theorem dX6_readStars_31 : decode cX6_readStars 31 = .ok (.aload_n 0, 1) := by decide +kernel
theorem dX6_readStars_32 : decode cX6_readStars 32 = .ok (.getfield 9, 3) := by decide +kernel
theorem dX6_readStars_35 : decode cX6_readStars 35 = .ok (.aload_n 0, 1) := by decide +kernel
theorem dX6_readStars_36 : decode cX6_readStars 36 = .ok (.getfield 25, 3) := by decide +kernel
theorem dX6_readStars_39 : decode cX6_readStars 39 = .ok (.iaload, 1) := by decide +kernel
theorem dX6_readStars_40 : decode cX6_readStars 40 = .ok (.bipush 97, 2) := by decide +kernel
theorem dX6_readStars_42 : decode cX6_readStars 42 = .ok (.if_icmp .lt 60, 3) := by decide +kernel
theorem dX6_readStars_45 : decode cX6_readStars 45 = .ok (.aload_n 0, 1) := by decide +kernel
theorem dX6_readStars_46 : decode cX6_readStars 46 = .ok (.getfield 9, 3) := by decide +kernel
theorem dX6_readStars_49 : decode cX6_readStars 49 = .ok (.aload_n 0, 1) := by decide +kernel
theorem dX6_readStars_50 : decode cX6_readStars 50 = .ok (.getfield 25, 3) := by decide +kernel
theorem dX6_readStars_53 : decode cX6_readStars 53 = .ok (.iaload, 1) := by decide +kernel
theorem dX6_readStars_54 : decode cX6_readStars 54 = .ok (.bipush 101, 2) := by decide +kernel
theorem dX6_readStars_56 : decode cX6_readStars 56 = .ok (.if_icmp .gt 46, 3) := by decide +kernel
theorem dX6_readStars_59 : decode cX6_readStars 59 = .ok (.aload_n 0, 1) := by decide +kernel
theorem dX6_readStars_60 : decode cX6_readStars 60 = .ok (.getfield 25, 3) := by decide +kernel
theorem dX6_readStars_63 : decode cX6_readStars 63 = .ok (.iload_n 2, 1) := by decide +kernel
theorem dX6_readStars_64 : decode cX6_readStars 64 = .ok (.isub, 1) := by decide +kernel
theorem dX6_readStars_65 : decode cX6_readStars 65 = .ok (.iconst 5, 1) := by decide +kernel
theorem dX6_readStars_66 : decode cX6_readStars 66 = .ok (.if_icmp .ge 36, 3) := by decide +kernel
theorem dX6_readStars_69 : decode cX6_readStars 69 = .ok (.iload_n 3, 1) := by decide +kernel
theorem dX6_readStars_70 : decode cX6_readStars 70 = .ok (.bipush 10, 2) := by decide +kernel
theorem dX6_readStars_72 : decode cX6_readStars 72 = .ok (.imul, 1) := by decide +kernel
theorem dX6_readStars_73 : decode cX6_readStars 73 = .ok (.aload_n 0, 1) := by decide +kernel
theorem dX6_readStars_74 : decode cX6_readStars 74 = .ok (.getfield 9, 3) := by decide +kernel
theorem dX6_readStars_77 : decode cX6_readStars 77 = .ok (.aload_n 0, 1) := by decide +kernel
theorem dX6_readStars_78 : decode cX6_readStars 78 = .ok (.getfield 25, 3) := by decide +kernel
theorem dX6_readStars_81 : decode cX6_readStars 81 = .ok (.iaload, 1) := by decide +kernel
theorem dX6_readStars_82 : decode cX6_readStars 82 = .ok (.iadd, 1) := by decide +kernel
theorem dX6_readStars_83 : decode cX6_readStars 83 = .ok (.bipush 97, 2) := by decide +kernel
theorem dX6_readStars_85 : decode cX6_readStars 85 = .ok (.isub, 1) := by decide +kernel
theorem dX6_readStars_86 : decode cX6_readStars 86 = .ok (.iconst 1, 1) := by decide +kernel
theorem dX6_readStars_87 : decode cX6_readStars 87 = .ok (.iadd, 1) := by decide +kernel
theorem dX6_readStars_88 : decode cX6_readStars 88 = .ok (.istore_n 3, 1) := by decide +kernel
theorem dX6_readStars_89 : decode cX6_readStars 89 = .ok (.aload_n 0, 1) := by decide +kernel
theorem dX6_readStars_90 : decode cX6_readStars 90 = .ok (.dup, 1) := by decide +kernel
theorem dX6_readStars_91 : decode cX6_readStars 91 = .ok (.getfield 25, 3) := by decide +kernel
theorem dX6_readStars_94 : decode cX6_readStars 94 = .ok (.iconst 1, 1) := by decide +kernel
theorem dX6_readStars_95 : decode cX6_readStars 95 = .ok (.iadd, 1) := by decide +kernel
theorem dX6_readStars_96 : decode cX6_readStars 96 = .ok (.putfield 25, 3) := by decide +kernel
theorem dX6_readStars_99 : decode cX6_readStars 99 = .ok (.goto (-79), 3) := by decide +kernel
theorem dX6_readStars_102 : decode cX6_readStars 102 = .ok (.aload_n 0, 1) := by decide +kernel
theorem dX6_readStars_103 : decode cX6_readStars 103 = .ok (.getfield 25, 3) := by decide +kernel
theorem dX6_readStars_106 : decode cX6_readStars 106 = .ok (.iload_n 2, 1) := by decide +kernel
theorem dX6_readStars_107 : decode cX6_readStars 107 = .ok (.if_icmp .eq 42, 3) := by decide +kernel
theorem dX6_readStars_110 : decode cX6_readStars 110 = .ok (.aload_n 0, 1) := by decide +kernel
theorem dX6_readStars_111 : decode cX6_readStars 111 = .ok (.getfield 25, 3) := by decide +kernel
theorem dX6_readStars_114 : decode cX6_readStars 114 = .ok (.aload_n 0, 1) := by decide +kernel
theorem dX6_readStars_115 : decode cX6_readStars 115 = .ok (.getfield 21, 3) := by decide +kernel
theorem dX6_readStars_118 : decode cX6_readStars 118 = .ok (.if_icmp .ge 43, 3) := by decide +kernel
theorem dX6_readStars_121 : decode cX6_readStars 121 = .ok (.aload_n 0, 1) := by decide +kernel
theorem dX6_readStars_122 : decode cX6_readStars 122 = .ok (.getfield 9, 3) := by decide +kernel
theorem dX6_readStars_125 : decode cX6_readStars 125 = .ok (.aload_n 0, 1) := by decide +kernel
theorem dX6_readStars_126 : decode cX6_readStars 126 = .ok (.getfield 25, 3) := by decide +kernel
theorem dX6_readStars_129 : decode cX6_readStars 129 = .ok (.iaload, 1) := by decide +kernel
theorem dX6_readStars_130 : decode cX6_readStars 130 = .ok (.bipush 97, 2) := by decide +kernel
theorem dX6_readStars_132 : decode cX6_readStars 132 = .ok (.if_icmp .lt 29, 3) := by decide +kernel
theorem dX6_readStars_135 : decode cX6_readStars 135 = .ok (.aload_n 0, 1) := by decide +kernel
theorem dX6_readStars_136 : decode cX6_readStars 136 = .ok (.getfield 9, 3) := by decide +kernel
theorem dX6_readStars_139 : decode cX6_readStars 139 = .ok (.aload_n 0, 1) := by decide +kernel
theorem dX6_readStars_140 : decode cX6_readStars 140 = .ok (.getfield 25, 3) := by decide +kernel
theorem dX6_readStars_143 : decode cX6_readStars 143 = .ok (.iaload, 1) := by decide +kernel
theorem dX6_readStars_144 : decode cX6_readStars 144 = .ok (.bipush 101, 2) := by decide +kernel
theorem dX6_readStars_146 : decode cX6_readStars 146 = .ok (.if_icmp .gt 15, 3) := by decide +kernel
theorem dX6_readStars_149 : decode cX6_readStars 149 = .ok (.aload_n 0, 1) := by decide +kernel
theorem dX6_readStars_150 : decode cX6_readStars 150 = .ok (.iconst 1, 1) := by decide +kernel
theorem dX6_readStars_151 : decode cX6_readStars 151 = .ok (.aload_n 0, 1) := by decide +kernel
theorem dX6_readStars_152 : decode cX6_readStars 152 = .ok (.getfield 25, 3) := by decide +kernel
theorem dX6_readStars_155 : decode cX6_readStars 155 = .ok (.invokevirtual 56, 3) := by decide +kernel
theorem dX6_readStars_158 : decode cX6_readStars 158 = .ok (.goto 18, 3) := by decide +kernel
theorem dX6_readStars_161 : decode cX6_readStars 161 = .ok (.aload_n 1, 1) := by decide +kernel
theorem dX6_readStars_162 : decode cX6_readStars 162 = .ok (.iload_n 3, 1) := by decide +kernel
theorem dX6_readStars_163 : decode cX6_readStars 163 = .ok (.invokevirtual 112, 3) := by decide +kernel
theorem dX6_readStars_166 : decode cX6_readStars 166 = .ok (.iconst (-1), 1) := by decide +kernel
theorem dX6_readStars_167 : decode cX6_readStars 167 = .ok (.if_icmp .eq 9, 3) := by decide +kernel
theorem dX6_readStars_170 : decode cX6_readStars 170 = .ok (.aload_n 0, 1) := by decide +kernel
theorem dX6_readStars_171 : decode cX6_readStars 171 = .ok (.iconst 4, 1) := by decide +kernel
theorem dX6_readStars_172 : decode cX6_readStars 172 = .ok (.iload_n 2, 1) := by decide +kernel
theorem dX6_readStars_173 : decode cX6_readStars 173 = .ok (.invokevirtual 56, 3) := by decide +kernel
theorem dX6_readStars_176 : decode cX6_readStars 176 = .ok (.iload_n 3, 1) := by decide +kernel
theorem dX6_readStars_177 : decode cX6_readStars 177 = .ok (.ireturn, 1) := by decide +kernel
theorem dX6_skipBlanks_0 : decode cX6_skipBlanks 0 = .ok (.aload_n 0, 1) := by decide +kernel
theorem dX6_skipBlanks_1 : decode cX6_skipBlanks 1 = .ok (.getfield 25, 3) := by decide +kernel
theorem dX6_skipBlanks_4 : decode cX6_skipBlanks 4 = .ok (.aload_n 0, 1) := by decide +kernel
theorem dX6_skipBlanks_5 : decode cX6_skipBlanks 5 = .ok (.getfield 21, 3) := by decide +kernel
theorem dX6_skipBlanks_8 : decode cX6_skipBlanks 8 = .ok (.if_icmp .ge 30, 3) := by decide +kernel
theorem dX6_skipBlanks_11 : decode cX6_skipBlanks 11 = .ok (.aload_n 0, 1) := by decide +kernel
theorem dX6_skipBlanks_12 : decode cX6_skipBlanks 12 = .ok (.getfield 9, 3) := by decide +kernel
theorem dX6_skipBlanks_15 : decode cX6_skipBlanks 15 = .ok (.aload_n 0, 1) := by decide +kernel
theorem dX6_skipBlanks_16 : decode cX6_skipBlanks 16 = .ok (.getfield 25, 3) := by decide +kernel
theorem dX6_skipBlanks_19 : decode cX6_skipBlanks 19 = .ok (.iaload, 1) := by decide +kernel
theorem dX6_skipBlanks_20 : decode cX6_skipBlanks 20 = .ok (.bipush 32, 2) := by decide +kernel
theorem dX6_skipBlanks_22 : decode cX6_skipBlanks 22 = .ok (.if_icmp .ne 16, 3) := by decide +kernel
theorem dX6_skipBlanks_25 : decode cX6_skipBlanks 25 = .ok (.aload_n 0, 1) := by decide +kernel
theorem dX6_skipBlanks_26 : decode cX6_skipBlanks 26 = .ok (.dup, 1) := by decide +kernel
theorem dX6_skipBlanks_27 : decode cX6_skipBlanks 27 = .ok (.getfield 25, 3) := by decide +kernel
theorem dX6_skipBlanks_30 : decode cX6_skipBlanks 30 = .ok (.iconst 1, 1) := by decide +kernel
theorem dX6_skipBlanks_31 : decode cX6_skipBlanks 31 = .ok (.iadd, 1) := by decide +kernel
theorem dX6_skipBlanks_32 : decode cX6_skipBlanks 32 = .ok (.putfield 25, 3) := by decide +kernel
theorem dX6_skipBlanks_35 : decode cX6_skipBlanks 35 = .ok (.goto (-35), 3) := by decide +kernel
theorem dX6_skipBlanks_38 : decode cX6_skipBlanks 38 = .ok (.return_, 1) := by decide +kernel
theorem dX6_fail_0 : decode cX6_fail 0 = .ok (.aload_n 0, 1) := by decide +kernel
theorem dX6_fail_1 : decode cX6_fail 1 = .ok (.getfield 28, 3) := by decide +kernel
theorem dX6_fail_4 : decode cX6_fail 4 = .ok (.ifCond .ne 13, 3) := by decide +kernel
theorem dX6_fail_7 : decode cX6_fail 7 = .ok (.aload_n 0, 1) := by decide +kernel
theorem dX6_fail_8 : decode cX6_fail 8 = .ok (.iload_n 1, 1) := by decide +kernel
theorem dX6_fail_9 : decode cX6_fail 9 = .ok (.putfield 28, 3) := by decide +kernel
theorem dX6_fail_12 : decode cX6_fail 12 = .ok (.aload_n 0, 1) := by decide +kernel
theorem dX6_fail_13 : decode cX6_fail 13 = .ok (.iload_n 2, 1) := by decide +kernel
theorem dX6_fail_14 : decode cX6_fail 14 = .ok (.putfield 31, 3) := by decide +kernel
theorem dX6_fail_17 : decode cX6_fail 17 = .ok (.return_, 1) := by decide +kernel
theorem dX7_init_0 : decode cX7_init 0 = .ok (.aload_n 0, 1) := by decide +kernel
theorem dX7_init_1 : decode cX7_init 1 = .ok (.invokespecial 3, 3) := by decide +kernel
theorem dX7_init_4 : decode cX7_init 4 = .ok (.aload_n 0, 1) := by decide +kernel
theorem dX7_init_5 : decode cX7_init 5 = .ok (.bipush 6, 2) := by decide +kernel
theorem dX7_init_7 : decode cX7_init 7 = .ok (.newarray .int, 2) := by decide +kernel
theorem dX7_init_9 : decode cX7_init 9 = .ok (.putfield 9, 3) := by decide +kernel
theorem dX7_init_12 : decode cX7_init 12 = .ok (.aload_n 0, 1) := by decide +kernel
theorem dX7_init_13 : decode cX7_init 13 = .ok (.new 15, 3) := by decide +kernel
theorem dX7_init_16 : decode cX7_init 16 = .ok (.dup, 1) := by decide +kernel
theorem dX7_init_17 : decode cX7_init 17 = .ok (.invokespecial 17, 3) := by decide +kernel
theorem dX7_init_20 : decode cX7_init 20 = .ok (.putfield 18, 3) := by decide +kernel
theorem dX7_init_23 : decode cX7_init 23 = .ok (.return_, 1) := by decide +kernel
theorem dX7_find_0 : decode cX7_find 0 = .ok (.iconst 0, 1) := by decide +kernel
theorem dX7_find_1 : decode cX7_find 1 = .ok (.istore 4, 2) := by decide +kernel
theorem dX7_find_3 : decode cX7_find 3 = .ok (.iload 4, 2) := by decide +kernel
theorem dX7_find_5 : decode cX7_find 5 = .ok (.aload_n 1, 1) := by decide +kernel
theorem dX7_find_6 : decode cX7_find 6 = .ok (.getfield 22, 3) := by decide +kernel
theorem dX7_find_9 : decode cX7_find 9 = .ok (.if_icmp .ge 35, 3) := by decide +kernel
theorem dX7_find_12 : decode cX7_find 12 = .ok (.iload_n 3, 1) := by decide +kernel
theorem dX7_find_13 : decode cX7_find 13 = .ok (.iload 4, 2) := by decide +kernel
theorem dX7_find_15 : decode cX7_find 15 = .ok (.ishr, 1) := by decide +kernel
theorem dX7_find_16 : decode cX7_find 16 = .ok (.iconst 1, 1) := by decide +kernel
theorem dX7_find_17 : decode cX7_find 17 = .ok (.iand, 1) := by decide +kernel
theorem dX7_find_18 : decode cX7_find 18 = .ok (.iconst 1, 1) := by decide +kernel
theorem dX7_find_19 : decode cX7_find 19 = .ok (.if_icmp .ne 19, 3) := by decide +kernel
theorem dX7_find_22 : decode cX7_find 22 = .ok (.aload_n 2, 1) := by decide +kernel
theorem dX7_find_23 : decode cX7_find 23 = .ok (.aload_n 1, 1) := by decide +kernel
theorem dX7_find_24 : decode cX7_find 24 = .ok (.iload 4, 2) := by decide +kernel
theorem dX7_find_26 : decode cX7_find 26 = .ok (.invokevirtual 28, 3) := by decide +kernel
theorem dX7_find_29 : decode cX7_find 29 = .ok (.invokestatic 32, 3) := by decide +kernel
theorem dX7_find_32 : decode cX7_find 32 = .ok (.iconst 2, 1) := by decide +kernel
theorem dX7_find_33 : decode cX7_find 33 = .ok (.if_icmp .ge 5, 3) := by decide +kernel
theorem dX7_find_36 : decode cX7_find 36 = .ok (.iconst 0, 1) := by decide +kernel
theorem dX7_find_37 : decode cX7_find 37 = .ok (.ireturn, 1) := by decide +kernel
theorem dX7_find_38 : decode cX7_find 38 = .ok (.iinc 4 1, 3) := by decide +kernel
theorem dX7_find_41 : decode cX7_find 41 = .ok (.goto (-38), 3) := by decide +kernel
theorem dX7_find_44 : decode cX7_find 44 = .ok (.aload_n 0, 1) := by decide +kernel
theorem dX7_find_45 : decode cX7_find 45 = .ok (.getfield 18, 3) := by decide +kernel
theorem dX7_find_48 : decode cX7_find 48 = .ok (.aload_n 2, 1) := by decide +kernel
theorem dX7_find_49 : decode cX7_find 49 = .ok (.invokevirtual 38, 3) := by decide +kernel
theorem dX7_find_52 : decode cX7_find 52 = .ok (.aload_n 0, 1) := by decide +kernel
theorem dX7_find_53 : decode cX7_find 53 = .ok (.aload_n 1, 1) := by decide +kernel
theorem dX7_find_54 : decode cX7_find 54 = .ok (.aload_n 2, 1) := by decide +kernel
theorem dX7_find_55 : decode cX7_find 55 = .ok (.iload_n 3, 1) := by decide +kernel
theorem dX7_find_56 : decode cX7_find 56 = .ok (.iconst 0, 1) := by decide +kernel
theorem dX7_find_57 : decode cX7_find 57 = .ok (.invokevirtual 42, 3) := by decide +kernel
theorem dX7_find_60 : decode cX7_find 60 = .ok (.ireturn, 1) := by decide +kernel
theorem dX7_extend_0 : decode cX7_extend 0 = .ok (.iload_n 3, 1) := by decide +kernel
theorem dX7_extend_1 : decode cX7_extend 1 = .ok (.ifCond .ne 5, 3) := by decide +kernel
theorem dX7_extend_4 : decode cX7_extend 4 = .ok (.iconst 1, 1) := by decide +kernel
theorem dX7_extend_5 : decode cX7_extend 5 = .ok (.ireturn, 1) := by decide +kernel
theorem dX7_extend_6 : decode cX7_extend 6 = .ok (.iload 4, 2) := by decide +kernel
theorem dX7_extend_8 : decode cX7_extend 8 = .ok (.bipush 6, 2) := by decide +kernel
theorem dX7_extend_10 : decode cX7_extend 10 = .ok (.if_icmp .lt 5, 3) := by decide +kernel
theorem dX7_extend_13 : decode cX7_extend 13 = .ok (.iconst 0, 1) := by decide +kernel
theorem dX7_extend_14 : decode cX7_extend 14 = .ok (.ireturn, 1) := by decide +kernel
theorem dX7_extend_15 : decode cX7_extend 15 = .ok (.iconst 0, 1) := by decide +kernel
theorem dX7_extend_16 : decode cX7_extend 16 = .ok (.istore 5, 2) := by decide +kernel
theorem dX7_extend_18 : decode cX7_extend 18 = .ok (.iload 5, 2) := by decide +kernel
theorem dX7_extend_20 : decode cX7_extend 20 = .ok (.aload_n 1, 1) := by decide +kernel
theorem dX7_extend_21 : decode cX7_extend 21 = .ok (.getfield 22, 3) := by decide +kernel
theorem dX7_extend_24 : decode cX7_extend 24 = .ok (.if_icmp .ge 97, 3) := by decide +kernel
theorem dX7_extend_27 : decode cX7_extend 27 = .ok (.aload_n 0, 1) := by decide +kernel
theorem dX7_extend_28 : decode cX7_extend 28 = .ok (.getfield 18, 3) := by decide +kernel
theorem dX7_extend_31 : decode cX7_extend 31 = .ok (.aload_n 2, 1) := by decide +kernel
theorem dX7_extend_32 : decode cX7_extend 32 = .ok (.getfield 46, 3) := by decide +kernel
theorem dX7_extend_35 : decode cX7_extend 35 = .ok (.iload 4, 2) := by decide +kernel
theorem dX7_extend_37 : decode cX7_extend 37 = .ok (.iadd, 1) := by decide +kernel
theorem dX7_extend_38 : decode cX7_extend 38 = .ok (.putfield 46, 3) := by decide +kernel
theorem dX7_extend_41 : decode cX7_extend 41 = .ok (.iload_n 3, 1) := by decide +kernel
theorem dX7_extend_42 : decode cX7_extend 42 = .ok (.iload 5, 2) := by decide +kernel
theorem dX7_extend_44 : decode cX7_extend 44 = .ok (.ishr, 1) := by decide +kernel
theorem dX7_extend_45 : decode cX7_extend 45 = .ok (.iconst 1, 1) := by decide +kernel
theorem dX7_extend_46 : decode cX7_extend 46 = .ok (.iand, 1) := by decide +kernel
theorem dX7_extend_47 : decode cX7_extend 47 = .ok (.iconst 1, 1) := by decide +kernel
theorem dX7_extend_48 : decode cX7_extend 48 = .ok (.if_icmp .ne 67, 3) := by decide +kernel
theorem dX7_extend_51 : decode cX7_extend 51 = .ok (.aload_n 0, 1) := by decide +kernel
theorem dX7_extend_52 : decode cX7_extend 52 = .ok (.aload_n 1, 1) := by decide +kernel
theorem dX7_extend_53 : decode cX7_extend 53 = .ok (.iload 5, 2) := by decide +kernel
theorem dX7_extend_55 : decode cX7_extend 55 = .ok (.iload 4, 2) := by decide +kernel
theorem dX7_extend_57 : decode cX7_extend 57 = .ok (.invokevirtual 49, 3) := by decide +kernel
theorem dX7_extend_60 : decode cX7_extend 60 = .ok (.ifCond .eq 55, 3) := by decide +kernel
theorem dX7_extend_63 : decode cX7_extend 63 = .ok (.aload_n 0, 1) := by decide +kernel
theorem dX7_extend_64 : decode cX7_extend 64 = .ok (.getfield 9, 3) := by decide +kernel
theorem dX7_extend_67 : decode cX7_extend 67 = .ok (.iload 4, 2) := by decide +kernel
theorem dX7_extend_69 : decode cX7_extend 69 = .ok (.iload 5, 2) := by decide +kernel
theorem dX7_extend_71 : decode cX7_extend 71 = .ok (.iastore, 1) := by decide +kernel
theorem dX7_extend_72 : decode cX7_extend 72 = .ok (.aload_n 0, 1) := by decide +kernel
theorem dX7_extend_73 : decode cX7_extend 73 = .ok (.getfield 18, 3) := by decide +kernel
theorem dX7_extend_76 : decode cX7_extend 76 = .ok (.aload_n 1, 1) := by decide +kernel
theorem dX7_extend_77 : decode cX7_extend 77 = .ok (.iload 5, 2) := by decide +kernel
theorem dX7_extend_79 : decode cX7_extend 79 = .ok (.invokevirtual 53, 3) := by decide +kernel
theorem dX7_extend_82 : decode cX7_extend 82 = .ok (.aload_n 0, 1) := by decide +kernel
theorem dX7_extend_83 : decode cX7_extend 83 = .ok (.aload_n 1, 1) := by decide +kernel
theorem dX7_extend_84 : decode cX7_extend 84 = .ok (.aload_n 2, 1) := by decide +kernel
theorem dX7_extend_85 : decode cX7_extend 85 = .ok (.iload_n 3, 1) := by decide +kernel
theorem dX7_extend_86 : decode cX7_extend 86 = .ok (.iconst 1, 1) := by decide +kernel
theorem dX7_extend_87 : decode cX7_extend 87 = .ok (.iload 5, 2) := by decide +kernel
theorem dX7_extend_89 : decode cX7_extend 89 = .ok (.ishl, 1) := by decide +kernel
theorem dX7_extend_90 : decode cX7_extend 90 = .ok (.iconst (-1), 1) := by decide +kernel
theorem dX7_extend_91 : decode cX7_extend 91 = .ok (.ixor, 1) := by decide +kernel
theorem dX7_extend_92 : decode cX7_extend 92 = .ok (.iand, 1) := by decide +kernel
theorem dX7_extend_93 : decode cX7_extend 93 = .ok (.iload 4, 2) := by decide +kernel
theorem dX7_extend_95 : decode cX7_extend 95 = .ok (.iconst 1, 1) := by decide +kernel
theorem dX7_extend_96 : decode cX7_extend 96 = .ok (.iadd, 1) := by decide +kernel
theorem dX7_extend_97 : decode cX7_extend 97 = .ok (.invokevirtual 42, 3) := by decide +kernel
theorem dX7_extend_100 : decode cX7_extend 100 = .ok (.ifCond .eq 5, 3) := by decide +kernel
theorem dX7_extend_103 : decode cX7_extend 103 = .ok (.iconst 1, 1) := by decide +kernel
theorem dX7_extend_104 : decode cX7_extend 104 = .ok (.ireturn, 1) := by decide +kernel
theorem dX7_extend_105 : decode cX7_extend 105 = .ok (.aload_n 0, 1) := by decide +kernel
theorem dX7_extend_106 : decode cX7_extend 106 = .ok (.getfield 18, 3) := by decide +kernel
theorem dX7_extend_109 : decode cX7_extend 109 = .ok (.iload 5, 2) := by decide +kernel
theorem dX7_extend_111 : decode cX7_extend 111 = .ok (.aload_n 2, 1) := by decide +kernel
theorem dX7_extend_112 : decode cX7_extend 112 = .ok (.invokevirtual 57, 3) := by decide +kernel
theorem dX7_extend_115 : decode cX7_extend 115 = .ok (.iinc 5 1, 3) := by decide +kernel
theorem dX7_extend_118 : decode cX7_extend 118 = .ok (.goto (-100), 3) := by decide +kernel
theorem dX7_extend_121 : decode cX7_extend 121 = .ok (.iconst 0, 1) := by decide +kernel
theorem dX7_extend_122 : decode cX7_extend 122 = .ok (.ireturn, 1) := by decide +kernel
theorem dX7_fits_0 : decode cX7_fits 0 = .ok (.iload_n 3, 1) := by decide +kernel
theorem dX7_fits_1 : decode cX7_fits 1 = .ok (.ifCond .le 22, 3) := by decide +kernel
end
section
theorem dX7_fits_4 : decode cX7_fits 4 = .ok (.aload_n 1, 1) := by decide +kernel
theorem dX7_fits_5 : decode cX7_fits 5 = .ok (.aload_n 0, 1) := by decide +kernel
theorem dX7_fits_6 : decode cX7_fits 6 = .ok (.getfield 9, 3) := by decide +kernel
theorem dX7_fits_9 : decode cX7_fits 9 = .ok (.iload_n 3, 1) := by decide +kernel
theorem dX7_fits_10 : decode cX7_fits 10 = .ok (.iconst 1, 1) := by decide +kernel
theorem dX7_fits_11 : decode cX7_fits 11 = .ok (.isub, 1) := by decide +kernel
theorem dX7_fits_12 : decode cX7_fits 12 = .ok (.iaload, 1) := by decide +kernel
theorem dX7_fits_13 : decode cX7_fits 13 = .ok (.iload_n 2, 1) := by decide +kernel
theorem dX7_fits_14 : decode cX7_fits 14 = .ok (.invokevirtual 61, 3) := by decide +kernel
theorem dX7_fits_17 : decode cX7_fits 17 = .ok (.iconst 1, 1) := by decide +kernel
theorem dX7_fits_18 : decode cX7_fits 18 = .ok (.if_icmp .ne 5, 3) := by decide +kernel
theorem dX7_fits_21 : decode cX7_fits 21 = .ok (.iconst 0, 1) := by decide +kernel
theorem dX7_fits_22 : decode cX7_fits 22 = .ok (.ireturn, 1) := by decide +kernel
theorem dX7_fits_23 : decode cX7_fits 23 = .ok (.aload_n 0, 1) := by decide +kernel
theorem dX7_fits_24 : decode cX7_fits 24 = .ok (.getfield 18, 3) := by decide +kernel
theorem dX7_fits_27 : decode cX7_fits 27 = .ok (.aload_n 1, 1) := by decide +kernel
theorem dX7_fits_28 : decode cX7_fits 28 = .ok (.iload_n 2, 1) := by decide +kernel
theorem dX7_fits_29 : decode cX7_fits 29 = .ok (.invokevirtual 65, 3) := by decide +kernel
theorem dX7_fits_32 : decode cX7_fits 32 = .ok (.ifCond .ne 7, 3) := by decide +kernel
theorem dX7_fits_35 : decode cX7_fits 35 = .ok (.iconst 1, 1) := by decide +kernel
theorem dX7_fits_36 : decode cX7_fits 36 = .ok (.goto 4, 3) := by decide +kernel
theorem dX7_fits_39 : decode cX7_fits 39 = .ok (.iconst 0, 1) := by decide +kernel
theorem dX7_fits_40 : decode cX7_fits 40 = .ok (.ireturn, 1) := by decide +kernel
theorem dX8_areStars_0 : decode cX8_areStars 0 = .ok (.iload_n 0, 1) := by decide +kernel
theorem dX8_areStars_1 : decode cX8_areStars 1 = .ok (.iconst 1, 1) := by decide +kernel
theorem dX8_areStars_2 : decode cX8_areStars 2 = .ok (.if_icmp .lt 9, 3) := by decide +kernel
theorem dX8_areStars_5 : decode cX8_areStars 5 = .ok (.iload_n 0, 1) := by decide +kernel
theorem dX8_areStars_6 : decode cX8_areStars 6 = .ok (.ldc 9, 2) := by decide +kernel
theorem dX8_areStars_8 : decode cX8_areStars 8 = .ok (.if_icmp .le 5, 3) := by decide +kernel
theorem dX8_areStars_11 : decode cX8_areStars 11 = .ok (.iconst 0, 1) := by decide +kernel
theorem dX8_areStars_12 : decode cX8_areStars 12 = .ok (.ireturn, 1) := by decide +kernel
theorem dX8_areStars_13 : decode cX8_areStars 13 = .ok (.iload_n 0, 1) := by decide +kernel
theorem dX8_areStars_14 : decode cX8_areStars 14 = .ok (.istore_n 1, 1) := by decide +kernel
theorem dX8_areStars_15 : decode cX8_areStars 15 = .ok (.iload_n 1, 1) := by decide +kernel
theorem dX8_areStars_16 : decode cX8_areStars 16 = .ok (.ifCond .le 28, 3) := by decide +kernel
theorem dX8_areStars_19 : decode cX8_areStars 19 = .ok (.iload_n 1, 1) := by decide +kernel
theorem dX8_areStars_20 : decode cX8_areStars 20 = .ok (.bipush 10, 2) := by decide +kernel
theorem dX8_areStars_22 : decode cX8_areStars 22 = .ok (.irem, 1) := by decide +kernel
theorem dX8_areStars_23 : decode cX8_areStars 23 = .ok (.istore_n 2, 1) := by decide +kernel
theorem dX8_areStars_24 : decode cX8_areStars 24 = .ok (.iload_n 2, 1) := by decide +kernel
theorem dX8_areStars_25 : decode cX8_areStars 25 = .ok (.iconst 1, 1) := by decide +kernel
theorem dX8_areStars_26 : decode cX8_areStars 26 = .ok (.if_icmp .lt 8, 3) := by decide +kernel
theorem dX8_areStars_29 : decode cX8_areStars 29 = .ok (.iload_n 2, 1) := by decide +kernel
theorem dX8_areStars_30 : decode cX8_areStars 30 = .ok (.iconst 5, 1) := by decide +kernel
theorem dX8_areStars_31 : decode cX8_areStars 31 = .ok (.if_icmp .le 5, 3) := by decide +kernel
theorem dX8_areStars_34 : decode cX8_areStars 34 = .ok (.iconst 0, 1) := by decide +kernel
theorem dX8_areStars_35 : decode cX8_areStars 35 = .ok (.ireturn, 1) := by decide +kernel
theorem dX8_areStars_36 : decode cX8_areStars 36 = .ok (.iload_n 1, 1) := by decide +kernel
theorem dX8_areStars_37 : decode cX8_areStars 37 = .ok (.bipush 10, 2) := by decide +kernel
theorem dX8_areStars_39 : decode cX8_areStars 39 = .ok (.idiv, 1) := by decide +kernel
theorem dX8_areStars_40 : decode cX8_areStars 40 = .ok (.istore_n 1, 1) := by decide +kernel
theorem dX8_areStars_41 : decode cX8_areStars 41 = .ok (.goto (-26), 3) := by decide +kernel
theorem dX8_areStars_44 : decode cX8_areStars 44 = .ok (.iconst 1, 1) := by decide +kernel
theorem dX8_areStars_45 : decode cX8_areStars 45 = .ok (.ireturn, 1) := by decide +kernel
theorem dX8_count_0 : decode cX8_count 0 = .ok (.iconst 0, 1) := by decide +kernel
theorem dX8_count_1 : decode cX8_count 1 = .ok (.istore_n 1, 1) := by decide +kernel
theorem dX8_count_2 : decode cX8_count 2 = .ok (.iload_n 0, 1) := by decide +kernel
theorem dX8_count_3 : decode cX8_count 3 = .ok (.istore_n 2, 1) := by decide +kernel
theorem dX8_count_4 : decode cX8_count 4 = .ok (.iload_n 2, 1) := by decide +kernel
theorem dX8_count_5 : decode cX8_count 5 = .ok (.ifCond .le 14, 3) := by decide +kernel
theorem dX8_count_8 : decode cX8_count 8 = .ok (.iinc 1 1, 3) := by decide +kernel
theorem dX8_count_11 : decode cX8_count 11 = .ok (.iload_n 2, 1) := by decide +kernel
theorem dX8_count_12 : decode cX8_count 12 = .ok (.bipush 10, 2) := by decide +kernel
theorem dX8_count_14 : decode cX8_count 14 = .ok (.idiv, 1) := by decide +kernel
theorem dX8_count_15 : decode cX8_count 15 = .ok (.istore_n 2, 1) := by decide +kernel
theorem dX8_count_16 : decode cX8_count 16 = .ok (.goto (-12), 3) := by decide +kernel
theorem dX8_count_19 : decode cX8_count 19 = .ok (.iload_n 1, 1) := by decide +kernel
theorem dX8_count_20 : decode cX8_count 20 = .ok (.ireturn, 1) := by decide +kernel
theorem dX8_greens_0 : decode cX8_greens 0 = .ok (.iconst 0, 1) := by decide +kernel
theorem dX8_greens_1 : decode cX8_greens 1 = .ok (.istore_n 1, 1) := by decide +kernel
theorem dX8_greens_2 : decode cX8_greens 2 = .ok (.iload_n 0, 1) := by decide +kernel
theorem dX8_greens_3 : decode cX8_greens 3 = .ok (.istore_n 2, 1) := by decide +kernel
theorem dX8_greens_4 : decode cX8_greens 4 = .ok (.iload_n 2, 1) := by decide +kernel
theorem dX8_greens_5 : decode cX8_greens 5 = .ok (.ifCond .le 22, 3) := by decide +kernel
theorem dX8_greens_8 : decode cX8_greens 8 = .ok (.iload_n 2, 1) := by decide +kernel
theorem dX8_greens_9 : decode cX8_greens 9 = .ok (.bipush 10, 2) := by decide +kernel
theorem dX8_greens_11 : decode cX8_greens 11 = .ok (.irem, 1) := by decide +kernel
theorem dX8_greens_12 : decode cX8_greens 12 = .ok (.iconst 3, 1) := by decide +kernel
theorem dX8_greens_13 : decode cX8_greens 13 = .ok (.if_icmp .ne 6, 3) := by decide +kernel
theorem dX8_greens_16 : decode cX8_greens 16 = .ok (.iinc 1 1, 3) := by decide +kernel
theorem dX8_greens_19 : decode cX8_greens 19 = .ok (.iload_n 2, 1) := by decide +kernel
theorem dX8_greens_20 : decode cX8_greens 20 = .ok (.bipush 10, 2) := by decide +kernel
theorem dX8_greens_22 : decode cX8_greens 22 = .ok (.idiv, 1) := by decide +kernel
theorem dX8_greens_23 : decode cX8_greens 23 = .ok (.istore_n 2, 1) := by decide +kernel
theorem dX8_greens_24 : decode cX8_greens 24 = .ok (.goto (-20), 3) := by decide +kernel
theorem dX8_greens_27 : decode cX8_greens 27 = .ok (.iload_n 1, 1) := by decide +kernel
theorem dX8_greens_28 : decode cX8_greens 28 = .ok (.ireturn, 1) := by decide +kernel
theorem dX8_fromTheEnd_0 : decode cX8_fromTheEnd 0 = .ok (.iconst 0, 1) := by decide +kernel
theorem dX8_fromTheEnd_1 : decode cX8_fromTheEnd 1 = .ok (.istore_n 1, 1) := by decide +kernel
theorem dX8_fromTheEnd_2 : decode cX8_fromTheEnd 2 = .ok (.iload_n 0, 1) := by decide +kernel
theorem dX8_fromTheEnd_3 : decode cX8_fromTheEnd 3 = .ok (.istore_n 2, 1) := by decide +kernel
theorem dX8_fromTheEnd_4 : decode cX8_fromTheEnd 4 = .ok (.iload_n 2, 1) := by decide +kernel
theorem dX8_fromTheEnd_5 : decode cX8_fromTheEnd 5 = .ok (.ifCond .le 21, 3) := by decide +kernel
theorem dX8_fromTheEnd_8 : decode cX8_fromTheEnd 8 = .ok (.iload_n 1, 1) := by decide +kernel
theorem dX8_fromTheEnd_9 : decode cX8_fromTheEnd 9 = .ok (.bipush 10, 2) := by decide +kernel
theorem dX8_fromTheEnd_11 : decode cX8_fromTheEnd 11 = .ok (.imul, 1) := by decide +kernel
theorem dX8_fromTheEnd_12 : decode cX8_fromTheEnd 12 = .ok (.iload_n 2, 1) := by decide +kernel
theorem dX8_fromTheEnd_13 : decode cX8_fromTheEnd 13 = .ok (.bipush 10, 2) := by decide +kernel
theorem dX8_fromTheEnd_15 : decode cX8_fromTheEnd 15 = .ok (.irem, 1) := by decide +kernel
theorem dX8_fromTheEnd_16 : decode cX8_fromTheEnd 16 = .ok (.iadd, 1) := by decide +kernel
theorem dX8_fromTheEnd_17 : decode cX8_fromTheEnd 17 = .ok (.istore_n 1, 1) := by decide +kernel
theorem dX8_fromTheEnd_18 : decode cX8_fromTheEnd 18 = .ok (.iload_n 2, 1) := by decide +kernel
theorem dX8_fromTheEnd_19 : decode cX8_fromTheEnd 19 = .ok (.bipush 10, 2) := by decide +kernel
theorem dX8_fromTheEnd_21 : decode cX8_fromTheEnd 21 = .ok (.idiv, 1) := by decide +kernel
theorem dX8_fromTheEnd_22 : decode cX8_fromTheEnd 22 = .ok (.istore_n 2, 1) := by decide +kernel
theorem dX8_fromTheEnd_23 : decode cX8_fromTheEnd 23 = .ok (.goto (-19), 3) := by decide +kernel
theorem dX8_fromTheEnd_26 : decode cX8_fromTheEnd 26 = .ok (.iload_n 1, 1) := by decide +kernel
theorem dX8_fromTheEnd_27 : decode cX8_fromTheEnd 27 = .ok (.ireturn, 1) := by decide +kernel
theorem dX8_unlike_0 : decode cX8_unlike 0 = .ok (.iload_n 0, 1) := by decide +kernel
theorem dX8_unlike_1 : decode cX8_unlike 1 = .ok (.invokestatic 10, 3) := by decide +kernel
theorem dX8_unlike_4 : decode cX8_unlike 4 = .ok (.istore_n 2, 1) := by decide +kernel
theorem dX8_unlike_5 : decode cX8_unlike 5 = .ok (.iload_n 1, 1) := by decide +kernel
theorem dX8_unlike_6 : decode cX8_unlike 6 = .ok (.invokestatic 10, 3) := by decide +kernel
theorem dX8_unlike_9 : decode cX8_unlike 9 = .ok (.istore_n 3, 1) := by decide +kernel
theorem dX8_unlike_10 : decode cX8_unlike 10 = .ok (.iconst 0, 1) := by decide +kernel
theorem dX8_unlike_11 : decode cX8_unlike 11 = .ok (.istore 4, 2) := by decide +kernel
theorem dX8_unlike_13 : decode cX8_unlike 13 = .ok (.iconst 0, 1) := by decide +kernel
theorem dX8_unlike_14 : decode cX8_unlike 14 = .ok (.istore 5, 2) := by decide +kernel
theorem dX8_unlike_16 : decode cX8_unlike 16 = .ok (.iload 5, 2) := by decide +kernel
theorem dX8_unlike_18 : decode cX8_unlike 18 = .ok (.iconst 5, 1) := by decide +kernel
theorem dX8_unlike_19 : decode cX8_unlike 19 = .ok (.if_icmp .ge 33, 3) := by decide +kernel
theorem dX8_unlike_22 : decode cX8_unlike 22 = .ok (.iload_n 2, 1) := by decide +kernel
theorem dX8_unlike_23 : decode cX8_unlike 23 = .ok (.bipush 10, 2) := by decide +kernel
theorem dX8_unlike_25 : decode cX8_unlike 25 = .ok (.irem, 1) := by decide +kernel
theorem dX8_unlike_26 : decode cX8_unlike 26 = .ok (.iload_n 3, 1) := by decide +kernel
theorem dX8_unlike_27 : decode cX8_unlike 27 = .ok (.bipush 10, 2) := by decide +kernel
theorem dX8_unlike_29 : decode cX8_unlike 29 = .ok (.irem, 1) := by decide +kernel
theorem dX8_unlike_30 : decode cX8_unlike 30 = .ok (.if_icmp .eq 6, 3) := by decide +kernel
theorem dX8_unlike_33 : decode cX8_unlike 33 = .ok (.iinc 4 1, 3) := by decide +kernel
theorem dX8_unlike_36 : decode cX8_unlike 36 = .ok (.iload_n 2, 1) := by decide +kernel
theorem dX8_unlike_37 : decode cX8_unlike 37 = .ok (.bipush 10, 2) := by decide +kernel
theorem dX8_unlike_39 : decode cX8_unlike 39 = .ok (.idiv, 1) := by decide +kernel
theorem dX8_unlike_40 : decode cX8_unlike 40 = .ok (.istore_n 2, 1) := by decide +kernel
theorem dX8_unlike_41 : decode cX8_unlike 41 = .ok (.iload_n 3, 1) := by decide +kernel
theorem dX8_unlike_42 : decode cX8_unlike 42 = .ok (.bipush 10, 2) := by decide +kernel
theorem dX8_unlike_44 : decode cX8_unlike 44 = .ok (.idiv, 1) := by decide +kernel
theorem dX8_unlike_45 : decode cX8_unlike 45 = .ok (.istore_n 3, 1) := by decide +kernel
theorem dX8_unlike_46 : decode cX8_unlike 46 = .ok (.iinc 5 1, 3) := by decide +kernel
theorem dX8_unlike_49 : decode cX8_unlike 49 = .ok (.goto (-33), 3) := by decide +kernel
theorem dX8_unlike_52 : decode cX8_unlike 52 = .ok (.iload 4, 2) := by decide +kernel
theorem dX8_unlike_54 : decode cX8_unlike 54 = .ok (.ireturn, 1) := by decide +kernel
theorem dX9_init_0 : decode cX9_init 0 = .ok (.aload_n 0, 1) := by decide +kernel
theorem dX9_init_1 : decode cX9_init 1 = .ok (.invokespecial 1, 3) := by decide +kernel
theorem dX9_init_4 : decode cX9_init 4 = .ok (.aload_n 0, 1) := by decide +kernel
theorem dX9_init_5 : decode cX9_init 5 = .ok (.sipush 230, 3) := by decide +kernel
theorem dX9_init_8 : decode cX9_init 8 = .ok (.newarray .int, 2) := by decide +kernel
theorem dX9_init_10 : decode cX9_init 10 = .ok (.putfield 9, 3) := by decide +kernel
theorem dX9_init_13 : decode cX9_init 13 = .ok (.aload_n 0, 1) := by decide +kernel
theorem dX9_init_14 : decode cX9_init 14 = .ok (.iconst 0, 1) := by decide +kernel
theorem dX9_init_15 : decode cX9_init 15 = .ok (.putfield 13, 3) := by decide +kernel
theorem dX9_init_18 : decode cX9_init 18 = .ok (.aload_n 0, 1) := by decide +kernel
theorem dX9_init_19 : decode cX9_init 19 = .ok (.iconst (-1), 1) := by decide +kernel
theorem dX9_init_20 : decode cX9_init 20 = .ok (.putfield 17, 3) := by decide +kernel
theorem dX9_init_23 : decode cX9_init 23 = .ok (.aload_n 0, 1) := by decide +kernel
theorem dX9_init_24 : decode cX9_init 24 = .ok (.new 20, 3) := by decide +kernel
theorem dX9_init_27 : decode cX9_init 27 = .ok (.dup, 1) := by decide +kernel
theorem dX9_init_28 : decode cX9_init 28 = .ok (.invokespecial 22, 3) := by decide +kernel
theorem dX9_init_31 : decode cX9_init 31 = .ok (.putfield 23, 3) := by decide +kernel
theorem dX9_init_34 : decode cX9_init 34 = .ok (.aload_n 0, 1) := by decide +kernel
theorem dX9_init_35 : decode cX9_init 35 = .ok (.new 20, 3) := by decide +kernel
theorem dX9_init_38 : decode cX9_init 38 = .ok (.dup, 1) := by decide +kernel
theorem dX9_init_39 : decode cX9_init 39 = .ok (.invokespecial 22, 3) := by decide +kernel
theorem dX9_init_42 : decode cX9_init 42 = .ok (.putfield 27, 3) := by decide +kernel
theorem dX9_init_45 : decode cX9_init 45 = .ok (.aload_n 0, 1) := by decide +kernel
theorem dX9_init_46 : decode cX9_init 46 = .ok (.iconst 0, 1) := by decide +kernel
theorem dX9_init_47 : decode cX9_init 47 = .ok (.putfield 30, 3) := by decide +kernel
theorem dX9_init_50 : decode cX9_init 50 = .ok (.aload_n 0, 1) := by decide +kernel
theorem dX9_init_51 : decode cX9_init 51 = .ok (.new 33, 3) := by decide +kernel
theorem dX9_init_54 : decode cX9_init 54 = .ok (.dup, 1) := by decide +kernel
theorem dX9_init_55 : decode cX9_init 55 = .ok (.invokespecial 35, 3) := by decide +kernel
theorem dX9_init_58 : decode cX9_init 58 = .ok (.putfield 36, 3) := by decide +kernel
theorem dX9_init_61 : decode cX9_init 61 = .ok (.aload_n 0, 1) := by decide +kernel
theorem dX9_init_62 : decode cX9_init 62 = .ok (.new 40, 3) := by decide +kernel
theorem dX9_init_65 : decode cX9_init 65 = .ok (.dup, 1) := by decide +kernel
theorem dX9_init_66 : decode cX9_init 66 = .ok (.invokespecial 42, 3) := by decide +kernel
theorem dX9_init_69 : decode cX9_init 69 = .ok (.putfield 43, 3) := by decide +kernel
theorem dX9_init_72 : decode cX9_init 72 = .ok (.aload_n 0, 1) := by decide +kernel
theorem dX9_init_73 : decode cX9_init 73 = .ok (.getfield 43, 3) := by decide +kernel
theorem dX9_init_76 : decode cX9_init 76 = .ok (.aload_n 0, 1) := by decide +kernel
theorem dX9_init_77 : decode cX9_init 77 = .ok (.getfield 23, 3) := by decide +kernel
theorem dX9_init_80 : decode cX9_init 80 = .ok (.invokevirtual 47, 3) := by decide +kernel
theorem dX9_init_83 : decode cX9_init 83 = .ok (.aload_n 0, 1) := by decide +kernel
theorem dX9_init_84 : decode cX9_init 84 = .ok (.new 51, 3) := by decide +kernel
theorem dX9_init_87 : decode cX9_init 87 = .ok (.dup, 1) := by decide +kernel
theorem dX9_init_88 : decode cX9_init 88 = .ok (.invokespecial 53, 3) := by decide +kernel
theorem dX9_init_91 : decode cX9_init 91 = .ok (.putfield 54, 3) := by decide +kernel
theorem dX9_init_94 : decode cX9_init 94 = .ok (.aload_n 0, 1) := by decide +kernel
theorem dX9_init_95 : decode cX9_init 95 = .ok (.iconst 2, 1) := by decide +kernel
theorem dX9_init_96 : decode cX9_init 96 = .ok (.anewarray 40, 3) := by decide +kernel
theorem dX9_init_99 : decode cX9_init 99 = .ok (.putfield 58, 3) := by decide +kernel
theorem dX9_init_102 : decode cX9_init 102 = .ok (.iconst 0, 1) := by decide +kernel
theorem dX9_init_103 : decode cX9_init 103 = .ok (.istore_n 1, 1) := by decide +kernel
theorem dX9_init_104 : decode cX9_init 104 = .ok (.iload_n 1, 1) := by decide +kernel
theorem dX9_init_105 : decode cX9_init 105 = .ok (.iconst 2, 1) := by decide +kernel
theorem dX9_init_106 : decode cX9_init 106 = .ok (.if_icmp .ge 22, 3) := by decide +kernel
theorem dX9_init_109 : decode cX9_init 109 = .ok (.aload_n 0, 1) := by decide +kernel
theorem dX9_init_110 : decode cX9_init 110 = .ok (.getfield 58, 3) := by decide +kernel
theorem dX9_init_113 : decode cX9_init 113 = .ok (.iload_n 1, 1) := by decide +kernel
theorem dX9_init_114 : decode cX9_init 114 = .ok (.new 40, 3) := by decide +kernel
theorem dX9_init_117 : decode cX9_init 117 = .ok (.dup, 1) := by decide +kernel
theorem dX9_init_118 : decode cX9_init 118 = .ok (.invokespecial 42, 3) := by decide +kernel
theorem dX9_init_121 : decode cX9_init 121 = .ok (.aastore, 1) := by decide +kernel
theorem dX9_init_122 : decode cX9_init 122 = .ok (.iinc 1 1, 3) := by decide +kernel
theorem dX9_init_125 : decode cX9_init 125 = .ok (.goto (-21), 3) := by decide +kernel
theorem dX9_init_128 : decode cX9_init 128 = .ok (.aload_n 0, 1) := by decide +kernel
theorem dX9_init_129 : decode cX9_init 129 = .ok (.iconst 2, 1) := by decide +kernel
theorem dX9_init_130 : decode cX9_init 130 = .ok (.newarray .boolean, 2) := by decide +kernel
theorem dX9_init_132 : decode cX9_init 132 = .ok (.putfield 62, 3) := by decide +kernel
theorem dX9_init_135 : decode cX9_init 135 = .ok (.aload_n 0, 1) := by decide +kernel
theorem dX9_init_136 : decode cX9_init 136 = .ok (.iconst 2, 1) := by decide +kernel
theorem dX9_init_137 : decode cX9_init 137 = .ok (.newarray .int, 2) := by decide +kernel
theorem dX9_init_139 : decode cX9_init 139 = .ok (.putfield 66, 3) := by decide +kernel
theorem dX9_init_142 : decode cX9_init 142 = .ok (.aload_n 0, 1) := by decide +kernel
theorem dX9_init_143 : decode cX9_init 143 = .ok (.new 69, 3) := by decide +kernel
theorem dX9_init_146 : decode cX9_init 146 = .ok (.dup, 1) := by decide +kernel
theorem dX9_init_147 : decode cX9_init 147 = .ok (.invokespecial 71, 3) := by decide +kernel
theorem dX9_init_150 : decode cX9_init 150 = .ok (.putfield 72, 3) := by decide +kernel
theorem dX9_init_153 : decode cX9_init 153 = .ok (.aload_n 0, 1) := by decide +kernel
theorem dX9_init_154 : decode cX9_init 154 = .ok (.new 76, 3) := by decide +kernel
theorem dX9_init_157 : decode cX9_init 157 = .ok (.dup, 1) := by decide +kernel
theorem dX9_init_158 : decode cX9_init 158 = .ok (.invokespecial 78, 3) := by decide +kernel
theorem dX9_init_161 : decode cX9_init 161 = .ok (.putfield 79, 3) := by decide +kernel
theorem dX9_init_164 : decode cX9_init 164 = .ok (.aload_n 0, 1) := by decide +kernel
theorem dX9_init_165 : decode cX9_init 165 = .ok (.new 83, 3) := by decide +kernel
theorem dX9_init_168 : decode cX9_init 168 = .ok (.dup, 1) := by decide +kernel
theorem dX9_init_169 : decode cX9_init 169 = .ok (.invokespecial 85, 3) := by decide +kernel
theorem dX9_init_172 : decode cX9_init 172 = .ok (.putfield 86, 3) := by decide +kernel
theorem dX9_init_175 : decode cX9_init 175 = .ok (.aload_n 0, 1) := by decide +kernel
theorem dX9_init_176 : decode cX9_init 176 = .ok (.new 90, 3) := by decide +kernel
theorem dX9_init_179 : decode cX9_init 179 = .ok (.dup, 1) := by decide +kernel
theorem dX9_init_180 : decode cX9_init 180 = .ok (.invokespecial 92, 3) := by decide +kernel
theorem dX9_init_183 : decode cX9_init 183 = .ok (.putfield 93, 3) := by decide +kernel
theorem dX9_init_186 : decode cX9_init 186 = .ok (.return_, 1) := by decide +kernel
theorem dX9_feed_0 : decode cX9_feed 0 = .ok (.iload_n 1, 1) := by decide +kernel
theorem dX9_feed_1 : decode cX9_feed 1 = .ok (.ifCond .lt 10, 3) := by decide +kernel
theorem dX9_feed_4 : decode cX9_feed 4 = .ok (.iload_n 1, 1) := by decide +kernel
theorem dX9_feed_5 : decode cX9_feed 5 = .ok (.sipush 255, 3) := by decide +kernel
theorem dX9_feed_8 : decode cX9_feed 8 = .ok (.if_icmp .le 6, 3) := by decide +kernel
theorem dX9_feed_11 : decode cX9_feed 11 = .ok (.ldc 97, 2) := by decide +kernel
theorem dX9_feed_13 : decode cX9_feed 13 = .ok (.ireturn, 1) := by decide +kernel
theorem dX9_feed_14 : decode cX9_feed 14 = .ok (.aload_n 0, 1) := by decide +kernel
theorem dX9_feed_15 : decode cX9_feed 15 = .ok (.getfield 13, 3) := by decide +kernel
theorem dX9_feed_18 : decode cX9_feed 18 = .ok (.sipush 230, 3) := by decide +kernel
theorem dX9_feed_21 : decode cX9_feed 21 = .ok (.if_icmp .lt 6, 3) := by decide +kernel
theorem dX9_feed_24 : decode cX9_feed 24 = .ok (.ldc 98, 2) := by decide +kernel
theorem dX9_feed_26 : decode cX9_feed 26 = .ok (.ireturn, 1) := by decide +kernel
theorem dX9_feed_27 : decode cX9_feed 27 = .ok (.aload_n 0, 1) := by decide +kernel
theorem dX9_feed_28 : decode cX9_feed 28 = .ok (.getfield 9, 3) := by decide +kernel
theorem dX9_feed_31 : decode cX9_feed 31 = .ok (.aload_n 0, 1) := by decide +kernel
theorem dX9_feed_32 : decode cX9_feed 32 = .ok (.getfield 13, 3) := by decide +kernel
theorem dX9_feed_35 : decode cX9_feed 35 = .ok (.iload_n 1, 1) := by decide +kernel
theorem dX9_feed_36 : decode cX9_feed 36 = .ok (.iastore, 1) := by decide +kernel
theorem dX9_feed_37 : decode cX9_feed 37 = .ok (.aload_n 0, 1) := by decide +kernel
theorem dX9_feed_38 : decode cX9_feed 38 = .ok (.dup, 1) := by decide +kernel
theorem dX9_feed_39 : decode cX9_feed 39 = .ok (.getfield 13, 3) := by decide +kernel
theorem dX9_feed_42 : decode cX9_feed 42 = .ok (.iconst 1, 1) := by decide +kernel
theorem dX9_feed_43 : decode cX9_feed 43 = .ok (.iadd, 1) := by decide +kernel
theorem dX9_feed_44 : decode cX9_feed 44 = .ok (.putfield 13, 3) := by decide +kernel
theorem dX9_feed_47 : decode cX9_feed 47 = .ok (.aload_n 0, 1) := by decide +kernel
theorem dX9_feed_48 : decode cX9_feed 48 = .ok (.getfield 13, 3) := by decide +kernel
theorem dX9_feed_51 : decode cX9_feed 51 = .ok (.ireturn, 1) := by decide +kernel
theorem dX9_bay_0 : decode cX9_bay 0 = .ok (.aload_n 0, 1) := by decide +kernel
theorem dX9_bay_1 : decode cX9_bay 1 = .ok (.getfield 36, 3) := by decide +kernel
theorem dX9_bay_4 : decode cX9_bay 4 = .ok (.aload_n 0, 1) := by decide +kernel
theorem dX9_bay_5 : decode cX9_bay 5 = .ok (.getfield 9, 3) := by decide +kernel
theorem dX9_bay_8 : decode cX9_bay 8 = .ok (.aload_n 0, 1) := by decide +kernel
theorem dX9_bay_9 : decode cX9_bay 9 = .ok (.getfield 13, 3) := by decide +kernel
theorem dX9_bay_12 : decode cX9_bay 12 = .ok (.aload_n 0, 1) := by decide +kernel
theorem dX9_bay_13 : decode cX9_bay 13 = .ok (.getfield 27, 3) := by decide +kernel
theorem dX9_bay_16 : decode cX9_bay 16 = .ok (.invokevirtual 99, 3) := by decide +kernel
theorem dX9_bay_19 : decode cX9_bay 19 = .ok (.istore_n 1, 1) := by decide +kernel
theorem dX9_bay_20 : decode cX9_bay 20 = .ok (.aload_n 0, 1) := by decide +kernel
theorem dX9_bay_21 : decode cX9_bay 21 = .ok (.iconst 0, 1) := by decide +kernel
theorem dX9_bay_22 : decode cX9_bay 22 = .ok (.putfield 13, 3) := by decide +kernel
theorem dX9_bay_25 : decode cX9_bay 25 = .ok (.iload_n 1, 1) := by decide +kernel
theorem dX9_bay_26 : decode cX9_bay 26 = .ok (.ifCond .eq 19, 3) := by decide +kernel
theorem dX9_bay_29 : decode cX9_bay 29 = .ok (.aload_n 0, 1) := by decide +kernel
theorem dX9_bay_30 : decode cX9_bay 30 = .ok (.aload_n 0, 1) := by decide +kernel
theorem dX9_bay_31 : decode cX9_bay 31 = .ok (.getfield 36, 3) := by decide +kernel
theorem dX9_bay_34 : decode cX9_bay 34 = .ok (.getfield 103, 3) := by decide +kernel
theorem dX9_bay_37 : decode cX9_bay 37 = .ok (.putfield 17, 3) := by decide +kernel
theorem dX9_bay_40 : decode cX9_bay 40 = .ok (.bipush (-10), 2) := by decide +kernel
theorem dX9_bay_42 : decode cX9_bay 42 = .ok (.iload_n 1, 1) := by decide +kernel
theorem dX9_bay_43 : decode cX9_bay 43 = .ok (.isub, 1) := by decide +kernel
theorem dX9_bay_44 : decode cX9_bay 44 = .ok (.ireturn, 1) := by decide +kernel
theorem dX9_bay_45 : decode cX9_bay 45 = .ok (.aload_n 0, 1) := by decide +kernel
theorem dX9_bay_46 : decode cX9_bay 46 = .ok (.iconst (-1), 1) := by decide +kernel
theorem dX9_bay_47 : decode cX9_bay 47 = .ok (.putfield 17, 3) := by decide +kernel
theorem dX9_bay_50 : decode cX9_bay 50 = .ok (.aload_n 0, 1) := by decide +kernel
theorem dX9_bay_51 : decode cX9_bay 51 = .ok (.getfield 23, 3) := by decide +kernel
theorem dX9_bay_54 : decode cX9_bay 54 = .ok (.astore_n 2, 1) := by decide +kernel
theorem dX9_bay_55 : decode cX9_bay 55 = .ok (.aload_n 0, 1) := by decide +kernel
theorem dX9_bay_56 : decode cX9_bay 56 = .ok (.aload_n 0, 1) := by decide +kernel
theorem dX9_bay_57 : decode cX9_bay 57 = .ok (.getfield 27, 3) := by decide +kernel
theorem dX9_bay_60 : decode cX9_bay 60 = .ok (.putfield 23, 3) := by decide +kernel
theorem dX9_bay_63 : decode cX9_bay 63 = .ok (.aload_n 0, 1) := by decide +kernel
theorem dX9_bay_64 : decode cX9_bay 64 = .ok (.aload_n 2, 1) := by decide +kernel
theorem dX9_bay_65 : decode cX9_bay 65 = .ok (.putfield 27, 3) := by decide +kernel
theorem dX9_bay_68 : decode cX9_bay 68 = .ok (.aload_n 0, 1) := by decide +kernel
theorem dX9_bay_69 : decode cX9_bay 69 = .ok (.getfield 43, 3) := by decide +kernel
theorem dX9_bay_72 : decode cX9_bay 72 = .ok (.aload_n 0, 1) := by decide +kernel
theorem dX9_bay_73 : decode cX9_bay 73 = .ok (.getfield 23, 3) := by decide +kernel
theorem dX9_bay_76 : decode cX9_bay 76 = .ok (.invokevirtual 47, 3) := by decide +kernel
theorem dX9_bay_79 : decode cX9_bay 79 = .ok (.aload_n 0, 1) := by decide +kernel
theorem dX9_bay_80 : decode cX9_bay 80 = .ok (.getfield 54, 3) := by decide +kernel
theorem dX9_bay_83 : decode cX9_bay 83 = .ok (.invokevirtual 104, 3) := by decide +kernel
theorem dX9_bay_86 : decode cX9_bay 86 = .ok (.iconst 0, 1) := by decide +kernel
theorem dX9_bay_87 : decode cX9_bay 87 = .ok (.istore_n 3, 1) := by decide +kernel
theorem dX9_bay_88 : decode cX9_bay 88 = .ok (.iload_n 3, 1) := by decide +kernel
theorem dX9_bay_89 : decode cX9_bay 89 = .ok (.iconst 2, 1) := by decide +kernel
theorem dX9_bay_90 : decode cX9_bay 90 = .ok (.if_icmp .ge 16, 3) := by decide +kernel
theorem dX9_bay_93 : decode cX9_bay 93 = .ok (.aload_n 0, 1) := by decide +kernel
theorem dX9_bay_94 : decode cX9_bay 94 = .ok (.getfield 62, 3) := by decide +kernel
theorem dX9_bay_97 : decode cX9_bay 97 = .ok (.iload_n 3, 1) := by decide +kernel
theorem dX9_bay_98 : decode cX9_bay 98 = .ok (.iconst 0, 1) := by decide +kernel
theorem dX9_bay_99 : decode cX9_bay 99 = .ok (.bastore, 1) := by decide +kernel
theorem dX9_bay_100 : decode cX9_bay 100 = .ok (.iinc 3 1, 3) := by decide +kernel
theorem dX9_bay_103 : decode cX9_bay 103 = .ok (.goto (-15), 3) := by decide +kernel
theorem dX9_bay_106 : decode cX9_bay 106 = .ok (.aload_n 0, 1) := by decide +kernel
theorem dX9_bay_107 : decode cX9_bay 107 = .ok (.getfield 86, 3) := by decide +kernel
theorem dX9_bay_110 : decode cX9_bay 110 = .ok (.iconst 0, 1) := by decide +kernel
theorem dX9_bay_111 : decode cX9_bay 111 = .ok (.putfield 107, 3) := by decide +kernel
theorem dX9_bay_114 : decode cX9_bay 114 = .ok (.aload_n 0, 1) := by decide +kernel
theorem dX9_bay_115 : decode cX9_bay 115 = .ok (.getfield 93, 3) := by decide +kernel
theorem dX9_bay_118 : decode cX9_bay 118 = .ok (.iconst 0, 1) := by decide +kernel
theorem dX9_bay_119 : decode cX9_bay 119 = .ok (.putfield 110, 3) := by decide +kernel
theorem dX9_bay_122 : decode cX9_bay 122 = .ok (.aload_n 0, 1) := by decide +kernel
theorem dX9_bay_123 : decode cX9_bay 123 = .ok (.getfield 23, 3) := by decide +kernel
theorem dX9_bay_126 : decode cX9_bay 126 = .ok (.getfield 111, 3) := by decide +kernel
theorem dX9_bay_129 : decode cX9_bay 129 = .ok (.ireturn, 1) := by decide +kernel
theorem dX9_fault_0 : decode cX9_fault 0 = .ok (.aload_n 0, 1) := by decide +kernel
theorem dX9_fault_1 : decode cX9_fault 1 = .ok (.getfield 17, 3) := by decide +kernel
theorem dX9_fault_4 : decode cX9_fault 4 = .ok (.ireturn, 1) := by decide +kernel
theorem dX9_told_0 : decode cX9_told 0 = .ok (.iload_n 1, 1) := by decide +kernel
theorem dX9_told_1 : decode cX9_told 1 = .ok (.tableswitch 175 0 12 #[67, 75, 83, 91, 99, 107, 115, 120, 128, 139, 151, 159, 167], 67) := by decide +kernel
theorem dX9_told_68 : decode cX9_told 68 = .ok (.aload_n 0, 1) := by decide +kernel
theorem dX9_told_69 : decode cX9_told 69 = .ok (.getfield 23, 3) := by decide +kernel
theorem dX9_told_72 : decode cX9_told 72 = .ok (.getfield 112, 3) := by decide +kernel
theorem dX9_told_75 : decode cX9_told 75 = .ok (.ireturn, 1) := by decide +kernel
theorem dX9_told_76 : decode cX9_told 76 = .ok (.aload_n 0, 1) := by decide +kernel
theorem dX9_told_77 : decode cX9_told 77 = .ok (.getfield 43, 3) := by decide +kernel
theorem dX9_told_80 : decode cX9_told 80 = .ok (.getfield 115, 3) := by decide +kernel
theorem dX9_told_83 : decode cX9_told 83 = .ok (.ireturn, 1) := by decide +kernel
theorem dX9_told_84 : decode cX9_told 84 = .ok (.aload_n 0, 1) := by decide +kernel
theorem dX9_told_85 : decode cX9_told 85 = .ok (.getfield 43, 3) := by decide +kernel
theorem dX9_told_88 : decode cX9_told 88 = .ok (.getfield 118, 3) := by decide +kernel
theorem dX9_told_91 : decode cX9_told 91 = .ok (.ireturn, 1) := by decide +kernel
theorem dX9_told_92 : decode cX9_told 92 = .ok (.aload_n 0, 1) := by decide +kernel
theorem dX9_told_93 : decode cX9_told 93 = .ok (.getfield 23, 3) := by decide +kernel
theorem dX9_told_96 : decode cX9_told 96 = .ok (.getfield 111, 3) := by decide +kernel
theorem dX9_told_99 : decode cX9_told 99 = .ok (.ireturn, 1) := by decide +kernel
theorem dX9_told_100 : decode cX9_told 100 = .ok (.aload_n 0, 1) := by decide +kernel
theorem dX9_told_101 : decode cX9_told 101 = .ok (.getfield 23, 3) := by decide +kernel
theorem dX9_told_104 : decode cX9_told 104 = .ok (.getfield 121, 3) := by decide +kernel
theorem dX9_told_107 : decode cX9_told 107 = .ok (.ireturn, 1) := by decide +kernel
theorem dX9_told_108 : decode cX9_told 108 = .ok (.aload_n 0, 1) := by decide +kernel
theorem dX9_told_109 : decode cX9_told 109 = .ok (.getfield 23, 3) := by decide +kernel
theorem dX9_told_112 : decode cX9_told 112 = .ok (.getfield 124, 3) := by decide +kernel
theorem dX9_told_115 : decode cX9_told 115 = .ok (.ireturn, 1) := by decide +kernel
theorem dX9_told_116 : decode cX9_told 116 = .ok (.aload_n 0, 1) := by decide +kernel
theorem dX9_told_117 : decode cX9_told 117 = .ok (.getfield 13, 3) := by decide +kernel
theorem dX9_told_120 : decode cX9_told 120 = .ok (.ireturn, 1) := by decide +kernel
theorem dX9_told_121 : decode cX9_told 121 = .ok (.aload_n 0, 1) := by decide +kernel
theorem dX9_told_122 : decode cX9_told 122 = .ok (.getfield 43, 3) := by decide +kernel
theorem dX9_told_125 : decode cX9_told 125 = .ok (.getfield 127, 3) := by decide +kernel
theorem dX9_told_128 : decode cX9_told 128 = .ok (.ireturn, 1) := by decide +kernel
theorem dX9_told_129 : decode cX9_told 129 = .ok (.aload_n 0, 1) := by decide +kernel
theorem dX9_told_130 : decode cX9_told 130 = .ok (.getfield 43, 3) := by decide +kernel
theorem dX9_told_133 : decode cX9_told 133 = .ok (.getfield 130, 3) := by decide +kernel
theorem dX9_told_136 : decode cX9_told 136 = .ok (.invokestatic 133, 3) := by decide +kernel
theorem dX9_told_139 : decode cX9_told 139 = .ok (.ireturn, 1) := by decide +kernel
theorem dX9_told_140 : decode cX9_told 140 = .ok (.aload_n 0, 1) := by decide +kernel
theorem dX9_told_141 : decode cX9_told 141 = .ok (.getfield 43, 3) := by decide +kernel
theorem dX9_told_144 : decode cX9_told 144 = .ok (.aload_n 0, 1) := by decide +kernel
theorem dX9_told_145 : decode cX9_told 145 = .ok (.getfield 23, 3) := by decide +kernel
theorem dX9_told_148 : decode cX9_told 148 = .ok (.invokevirtual 139, 3) := by decide +kernel
theorem dX9_told_151 : decode cX9_told 151 = .ok (.ireturn, 1) := by decide +kernel
theorem dX9_told_152 : decode cX9_told 152 = .ok (.aload_n 0, 1) := by decide +kernel
theorem dX9_told_153 : decode cX9_told 153 = .ok (.getfield 86, 3) := by decide +kernel
theorem dX9_told_156 : decode cX9_told 156 = .ok (.getfield 107, 3) := by decide +kernel
theorem dX9_told_159 : decode cX9_told 159 = .ok (.ireturn, 1) := by decide +kernel
theorem dX9_told_160 : decode cX9_told 160 = .ok (.aload_n 0, 1) := by decide +kernel
theorem dX9_told_161 : decode cX9_told 161 = .ok (.getfield 93, 3) := by decide +kernel
theorem dX9_told_164 : decode cX9_told 164 = .ok (.getfield 110, 3) := by decide +kernel
theorem dX9_told_167 : decode cX9_told 167 = .ok (.ireturn, 1) := by decide +kernel
theorem dX9_told_168 : decode cX9_told 168 = .ok (.aload_n 0, 1) := by decide +kernel
theorem dX9_told_169 : decode cX9_told 169 = .ok (.getfield 54, 3) := by decide +kernel
theorem dX9_told_172 : decode cX9_told 172 = .ok (.getfield 143, 3) := by decide +kernel
theorem dX9_told_175 : decode cX9_told 175 = .ok (.ireturn, 1) := by decide +kernel
theorem dX9_told_176 : decode cX9_told 176 = .ok (.ldc 97, 2) := by decide +kernel
theorem dX9_told_178 : decode cX9_told 178 = .ok (.ireturn, 1) := by decide +kernel
theorem dX9_house_0 : decode cX9_house 0 = .ok (.aload_n 0, 1) := by decide +kernel
theorem dX9_house_1 : decode cX9_house 1 = .ok (.getfield 23, 3) := by decide +kernel
theorem dX9_house_4 : decode cX9_house 4 = .ok (.iload_n 1, 1) := by decide +kernel
theorem dX9_house_5 : decode cX9_house 5 = .ok (.invokevirtual 144, 3) := by decide +kernel
theorem dX9_house_8 : decode cX9_house 8 = .ok (.ifCond .ne 6, 3) := by decide +kernel
theorem dX9_house_11 : decode cX9_house 11 = .ok (.ldc 148, 2) := by decide +kernel
theorem dX9_house_13 : decode cX9_house 13 = .ok (.ireturn, 1) := by decide +kernel
theorem dX9_house_14 : decode cX9_house 14 = .ok (.iload_n 2, 1) := by decide +kernel
theorem dX9_house_15 : decode cX9_house 15 = .ok (.tableswitch 127 0 7 #[45, 55, 65, 75, 88, 98, 108, 118], 45) := by decide +kernel
theorem dX9_house_60 : decode cX9_house 60 = .ok (.aload_n 0, 1) := by decide +kernel
theorem dX9_house_61 : decode cX9_house 61 = .ok (.getfield 23, 3) := by decide +kernel
theorem dX9_house_64 : decode cX9_house 64 = .ok (.getfield 149, 3) := by decide +kernel
theorem dX9_house_67 : decode cX9_house 67 = .ok (.iload_n 1, 1) := by decide +kernel
theorem dX9_house_68 : decode cX9_house 68 = .ok (.iaload, 1) := by decide +kernel
theorem dX9_house_69 : decode cX9_house 69 = .ok (.ireturn, 1) := by decide +kernel
theorem dX9_house_70 : decode cX9_house 70 = .ok (.aload_n 0, 1) := by decide +kernel
theorem dX9_house_71 : decode cX9_house 71 = .ok (.getfield 23, 3) := by decide +kernel
theorem dX9_house_74 : decode cX9_house 74 = .ok (.getfield 152, 3) := by decide +kernel
theorem dX9_house_77 : decode cX9_house 77 = .ok (.iload_n 1, 1) := by decide +kernel
theorem dX9_house_78 : decode cX9_house 78 = .ok (.iaload, 1) := by decide +kernel
theorem dX9_house_79 : decode cX9_house 79 = .ok (.ireturn, 1) := by decide +kernel
theorem dX9_house_80 : decode cX9_house 80 = .ok (.aload_n 0, 1) := by decide +kernel
theorem dX9_house_81 : decode cX9_house 81 = .ok (.getfield 43, 3) := by decide +kernel
theorem dX9_house_84 : decode cX9_house 84 = .ok (.getfield 155, 3) := by decide +kernel
theorem dX9_house_87 : decode cX9_house 87 = .ok (.iload_n 1, 1) := by decide +kernel
theorem dX9_house_88 : decode cX9_house 88 = .ok (.iaload, 1) := by decide +kernel
theorem dX9_house_89 : decode cX9_house 89 = .ok (.ireturn, 1) := by decide +kernel
theorem dX9_house_90 : decode cX9_house 90 = .ok (.aload_n 0, 1) := by decide +kernel
theorem dX9_house_91 : decode cX9_house 91 = .ok (.getfield 23, 3) := by decide +kernel
theorem dX9_house_94 : decode cX9_house 94 = .ok (.getfield 158, 3) := by decide +kernel
theorem dX9_house_97 : decode cX9_house 97 = .ok (.iload_n 1, 1) := by decide +kernel
theorem dX9_house_98 : decode cX9_house 98 = .ok (.iaload, 1) := by decide +kernel
theorem dX9_house_99 : decode cX9_house 99 = .ok (.invokestatic 161, 3) := by decide +kernel
theorem dX9_house_102 : decode cX9_house 102 = .ok (.ireturn, 1) := by decide +kernel
theorem dX9_house_103 : decode cX9_house 103 = .ok (.aload_n 0, 1) := by decide +kernel
theorem dX9_house_104 : decode cX9_house 104 = .ok (.getfield 23, 3) := by decide +kernel
theorem dX9_house_107 : decode cX9_house 107 = .ok (.getfield 158, 3) := by decide +kernel
theorem dX9_house_110 : decode cX9_house 110 = .ok (.iload_n 1, 1) := by decide +kernel
theorem dX9_house_111 : decode cX9_house 111 = .ok (.iaload, 1) := by decide +kernel
theorem dX9_house_112 : decode cX9_house 112 = .ok (.ireturn, 1) := by decide +kernel
theorem dX9_house_113 : decode cX9_house 113 = .ok (.aload_n 0, 1) := by decide +kernel
theorem dX9_house_114 : decode cX9_house 114 = .ok (.getfield 43, 3) := by decide +kernel
theorem dX9_house_117 : decode cX9_house 117 = .ok (.getfield 165, 3) := by decide +kernel
theorem dX9_house_120 : decode cX9_house 120 = .ok (.iload_n 1, 1) := by decide +kernel
theorem dX9_house_121 : decode cX9_house 121 = .ok (.iaload, 1) := by decide +kernel
theorem dX9_house_122 : decode cX9_house 122 = .ok (.ireturn, 1) := by decide +kernel
theorem dX9_house_123 : decode cX9_house 123 = .ok (.aload_n 0, 1) := by decide +kernel
theorem dX9_house_124 : decode cX9_house 124 = .ok (.getfield 43, 3) := by decide +kernel
theorem dX9_house_127 : decode cX9_house 127 = .ok (.getfield 168, 3) := by decide +kernel
theorem dX9_house_130 : decode cX9_house 130 = .ok (.iload_n 1, 1) := by decide +kernel
theorem dX9_house_131 : decode cX9_house 131 = .ok (.iaload, 1) := by decide +kernel
theorem dX9_house_132 : decode cX9_house 132 = .ok (.ireturn, 1) := by decide +kernel
theorem dX9_house_133 : decode cX9_house 133 = .ok (.aload_n 0, 1) := by decide +kernel
theorem dX9_house_134 : decode cX9_house 134 = .ok (.getfield 23, 3) := by decide +kernel
theorem dX9_house_137 : decode cX9_house 137 = .ok (.iload_n 1, 1) := by decide +kernel
theorem dX9_house_138 : decode cX9_house 138 = .ok (.invokevirtual 171, 3) := by decide +kernel
theorem dX9_house_141 : decode cX9_house 141 = .ok (.ireturn, 1) := by decide +kernel
theorem dX9_house_142 : decode cX9_house 142 = .ok (.ldc 97, 2) := by decide +kernel
theorem dX9_house_144 : decode cX9_house 144 = .ok (.ireturn, 1) := by decide +kernel
theorem dX9_sees_0 : decode cX9_sees 0 = .ok (.aload_n 0, 1) := by decide +kernel
theorem dX9_sees_1 : decode cX9_sees 1 = .ok (.getfield 23, 3) := by decide +kernel
theorem dX9_sees_4 : decode cX9_sees 4 = .ok (.iload_n 1, 1) := by decide +kernel
theorem dX9_sees_5 : decode cX9_sees 5 = .ok (.iload_n 2, 1) := by decide +kernel
theorem dX9_sees_6 : decode cX9_sees 6 = .ok (.invokevirtual 174, 3) := by decide +kernel
theorem dX9_sees_9 : decode cX9_sees 9 = .ok (.ifCond .ne 6, 3) := by decide +kernel
theorem dX9_sees_12 : decode cX9_sees 12 = .ok (.ldc 148, 2) := by decide +kernel
theorem dX9_sees_14 : decode cX9_sees 14 = .ok (.ireturn, 1) := by decide +kernel
theorem dX9_sees_15 : decode cX9_sees 15 = .ok (.aload_n 0, 1) := by decide +kernel
theorem dX9_sees_16 : decode cX9_sees 16 = .ok (.getfield 43, 3) := by decide +kernel
theorem dX9_sees_19 : decode cX9_sees 19 = .ok (.aload_n 0, 1) := by decide +kernel
theorem dX9_sees_20 : decode cX9_sees 20 = .ok (.getfield 23, 3) := by decide +kernel
theorem dX9_sees_23 : decode cX9_sees 23 = .ok (.iload_n 2, 1) := by decide +kernel
theorem dX9_sees_24 : decode cX9_sees 24 = .ok (.invokevirtual 178, 3) := by decide +kernel
theorem dX9_sees_27 : decode cX9_sees 27 = .ok (.iload_n 1, 1) := by decide +kernel
theorem dX9_sees_28 : decode cX9_sees 28 = .ok (.ishr, 1) := by decide +kernel
theorem dX9_sees_29 : decode cX9_sees 29 = .ok (.iconst 1, 1) := by decide +kernel
theorem dX9_sees_30 : decode cX9_sees 30 = .ok (.iand, 1) := by decide +kernel
theorem dX9_sees_31 : decode cX9_sees 31 = .ok (.ireturn, 1) := by decide +kernel
theorem dX9_contract_0 : decode cX9_contract 0 = .ok (.aload_n 0, 1) := by decide +kernel
theorem dX9_contract_1 : decode cX9_contract 1 = .ok (.getfield 23, 3) := by decide +kernel
theorem dX9_contract_4 : decode cX9_contract 4 = .ok (.iload_n 1, 1) := by decide +kernel
theorem dX9_contract_5 : decode cX9_contract 5 = .ok (.iload_n 2, 1) := by decide +kernel
theorem dX9_contract_6 : decode cX9_contract 6 = .ok (.invokevirtual 174, 3) := by decide +kernel
theorem dX9_contract_9 : decode cX9_contract 9 = .ok (.ifCond .ne 6, 3) := by decide +kernel
theorem dX9_contract_12 : decode cX9_contract 12 = .ok (.ldc 148, 2) := by decide +kernel
theorem dX9_contract_14 : decode cX9_contract 14 = .ok (.ireturn, 1) := by decide +kernel
theorem dX9_contract_15 : decode cX9_contract 15 = .ok (.aload_n 0, 1) := by decide +kernel
theorem dX9_contract_16 : decode cX9_contract 16 = .ok (.getfield 43, 3) := by decide +kernel
theorem dX9_contract_19 : decode cX9_contract 19 = .ok (.iload_n 1, 1) := by decide +kernel
theorem dX9_contract_20 : decode cX9_contract 20 = .ok (.iload_n 2, 1) := by decide +kernel
theorem dX9_contract_21 : decode cX9_contract 21 = .ok (.invokevirtual 182, 3) := by decide +kernel
theorem dX9_contract_24 : decode cX9_contract 24 = .ok (.ifCond .ne 5, 3) := by decide +kernel
theorem dX9_contract_27 : decode cX9_contract 27 = .ok (.iconst 0, 1) := by decide +kernel
theorem dX9_contract_28 : decode cX9_contract 28 = .ok (.ireturn, 1) := by decide +kernel
theorem dX9_contract_29 : decode cX9_contract 29 = .ok (.aload_n 0, 1) := by decide +kernel
theorem dX9_contract_30 : decode cX9_contract 30 = .ok (.getfield 23, 3) := by decide +kernel
theorem dX9_contract_33 : decode cX9_contract 33 = .ok (.iload_n 1, 1) := by decide +kernel
theorem dX9_contract_34 : decode cX9_contract 34 = .ok (.iload_n 2, 1) := by decide +kernel
theorem dX9_contract_35 : decode cX9_contract 35 = .ok (.invokevirtual 185, 3) := by decide +kernel
theorem dX9_contract_38 : decode cX9_contract 38 = .ok (.ifCond .eq 7, 3) := by decide +kernel
theorem dX9_contract_41 : decode cX9_contract 41 = .ok (.iconst 2, 1) := by decide +kernel
theorem dX9_contract_42 : decode cX9_contract 42 = .ok (.goto 4, 3) := by decide +kernel
theorem dX9_contract_45 : decode cX9_contract 45 = .ok (.iconst 1, 1) := by decide +kernel
theorem dX9_contract_46 : decode cX9_contract 46 = .ok (.ireturn, 1) := by decide +kernel
theorem dX9_light_0 : decode cX9_light 0 = .ok (.aload_n 0, 1) := by decide +kernel
theorem dX9_light_1 : decode cX9_light 1 = .ok (.getfield 23, 3) := by decide +kernel
theorem dX9_light_4 : decode cX9_light 4 = .ok (.iload_n 1, 1) := by decide +kernel
theorem dX9_light_5 : decode cX9_light 5 = .ok (.invokevirtual 144, 3) := by decide +kernel
theorem dX9_light_8 : decode cX9_light 8 = .ok (.ifCond .ne 6, 3) := by decide +kernel
theorem dX9_light_11 : decode cX9_light 11 = .ok (.ldc 148, 2) := by decide +kernel
theorem dX9_light_13 : decode cX9_light 13 = .ok (.ireturn, 1) := by decide +kernel
theorem dX9_light_14 : decode cX9_light 14 = .ok (.aload_n 0, 1) := by decide +kernel
theorem dX9_light_15 : decode cX9_light 15 = .ok (.getfield 43, 3) := by decide +kernel
theorem dX9_light_18 : decode cX9_light 18 = .ok (.getfield 155, 3) := by decide +kernel
theorem dX9_light_21 : decode cX9_light 21 = .ok (.iload_n 1, 1) := by decide +kernel
theorem dX9_light_22 : decode cX9_light 22 = .ok (.iaload, 1) := by decide +kernel
theorem dX9_light_23 : decode cX9_light 23 = .ok (.ifCond .le 22, 3) := by decide +kernel
theorem dX9_light_26 : decode cX9_light 26 = .ok (.aload_n 0, 1) := by decide +kernel
theorem dX9_light_27 : decode cX9_light 27 = .ok (.getfield 43, 3) := by decide +kernel
theorem dX9_light_30 : decode cX9_light 30 = .ok (.getfield 165, 3) := by decide +kernel
theorem dX9_light_33 : decode cX9_light 33 = .ok (.iload_n 1, 1) := by decide +kernel
theorem dX9_light_34 : decode cX9_light 34 = .ok (.iaload, 1) := by decide +kernel
theorem dX9_light_35 : decode cX9_light 35 = .ok (.aload_n 0, 1) := by decide +kernel
theorem dX9_light_36 : decode cX9_light 36 = .ok (.getfield 43, 3) := by decide +kernel
theorem dX9_light_39 : decode cX9_light 39 = .ok (.getfield 127, 3) := by decide +kernel
theorem dX9_light_42 : decode cX9_light 42 = .ok (.if_icmp .ne 6, 3) := by decide +kernel
theorem dX9_light_45 : decode cX9_light 45 = .ok (.ldc 188, 2) := by decide +kernel
theorem dX9_light_47 : decode cX9_light 47 = .ok (.ireturn, 1) := by decide +kernel
theorem dX9_light_48 : decode cX9_light 48 = .ok (.aload_n 0, 1) := by decide +kernel
theorem dX9_light_49 : decode cX9_light 49 = .ok (.getfield 54, 3) := by decide +kernel
theorem dX9_light_52 : decode cX9_light 52 = .ok (.aload_n 0, 1) := by decide +kernel
theorem dX9_light_53 : decode cX9_light 53 = .ok (.getfield 43, 3) := by decide +kernel
theorem dX9_light_56 : decode cX9_light 56 = .ok (.invokevirtual 189, 3) := by decide +kernel
theorem dX9_light_59 : decode cX9_light 59 = .ok (.aload_n 0, 1) := by decide +kernel
theorem dX9_light_60 : decode cX9_light 60 = .ok (.getfield 43, 3) := by decide +kernel
theorem dX9_light_63 : decode cX9_light 63 = .ok (.getfield 155, 3) := by decide +kernel
theorem dX9_light_66 : decode cX9_light 66 = .ok (.iload_n 1, 1) := by decide +kernel
theorem dX9_light_67 : decode cX9_light 67 = .ok (.dup2, 1) := by decide +kernel
theorem dX9_light_68 : decode cX9_light 68 = .ok (.iaload, 1) := by decide +kernel
theorem dX9_light_69 : decode cX9_light 69 = .ok (.iconst 1, 1) := by decide +kernel
theorem dX9_light_70 : decode cX9_light 70 = .ok (.isub, 1) := by decide +kernel
theorem dX9_light_71 : decode cX9_light 71 = .ok (.iastore, 1) := by decide +kernel
theorem dX9_light_72 : decode cX9_light 72 = .ok (.aload_n 0, 1) := by decide +kernel
theorem dX9_light_73 : decode cX9_light 73 = .ok (.getfield 43, 3) := by decide +kernel
theorem dX9_light_76 : decode cX9_light 76 = .ok (.aload_n 0, 1) := by decide +kernel
theorem dX9_light_77 : decode cX9_light 77 = .ok (.getfield 23, 3) := by decide +kernel
theorem dX9_light_80 : decode cX9_light 80 = .ok (.iload_n 1, 1) := by decide +kernel
theorem dX9_light_81 : decode cX9_light 81 = .ok (.invokevirtual 193, 3) := by decide +kernel
theorem dX9_light_84 : decode cX9_light 84 = .ok (.aload_n 0, 1) := by decide +kernel
theorem dX9_light_85 : decode cX9_light 85 = .ok (.getfield 43, 3) := by decide +kernel
theorem dX9_light_88 : decode cX9_light 88 = .ok (.aload_n 0, 1) := by decide +kernel
theorem dX9_light_89 : decode cX9_light 89 = .ok (.getfield 23, 3) := by decide +kernel
theorem dX9_light_92 : decode cX9_light 92 = .ok (.iload_n 1, 1) := by decide +kernel
theorem dX9_light_93 : decode cX9_light 93 = .ok (.invokevirtual 197, 3) := by decide +kernel
theorem dX9_light_96 : decode cX9_light 96 = .ok (.ireturn, 1) := by decide +kernel
theorem dX9_minute_0 : decode cX9_minute 0 = .ok (.aload_n 0, 1) := by decide +kernel
theorem dX9_minute_1 : decode cX9_minute 1 = .ok (.iload_n 1, 1) := by decide +kernel
theorem dX9_minute_2 : decode cX9_minute 2 = .ok (.invokevirtual 200, 3) := by decide +kernel
theorem dX9_minute_5 : decode cX9_minute 5 = .ok (.istore_n 2, 1) := by decide +kernel
theorem dX9_minute_6 : decode cX9_minute 6 = .ok (.iload_n 2, 1) := by decide +kernel
theorem dX9_minute_7 : decode cX9_minute 7 = .ok (.ifCond .eq 5, 3) := by decide +kernel
theorem dX9_minute_10 : decode cX9_minute 10 = .ok (.iload_n 2, 1) := by decide +kernel
theorem dX9_minute_11 : decode cX9_minute 11 = .ok (.ireturn, 1) := by decide +kernel
theorem dX9_minute_12 : decode cX9_minute 12 = .ok (.aload_n 0, 1) := by decide +kernel
theorem dX9_minute_13 : decode cX9_minute 13 = .ok (.getfield 54, 3) := by decide +kernel
theorem dX9_minute_16 : decode cX9_minute 16 = .ok (.aload_n 0, 1) := by decide +kernel
theorem dX9_minute_17 : decode cX9_minute 17 = .ok (.getfield 43, 3) := by decide +kernel
theorem dX9_minute_20 : decode cX9_minute 20 = .ok (.invokevirtual 189, 3) := by decide +kernel
theorem dX9_minute_23 : decode cX9_minute 23 = .ok (.aload_n 0, 1) := by decide +kernel
theorem dX9_minute_24 : decode cX9_minute 24 = .ok (.getfield 43, 3) := by decide +kernel
theorem dX9_minute_27 : decode cX9_minute 27 = .ok (.dup, 1) := by decide +kernel
theorem dX9_minute_28 : decode cX9_minute 28 = .ok (.getfield 127, 3) := by decide +kernel
theorem dX9_minute_31 : decode cX9_minute 31 = .ok (.iload_n 1, 1) := by decide +kernel
theorem dX9_minute_32 : decode cX9_minute 32 = .ok (.iadd, 1) := by decide +kernel
theorem dX9_minute_33 : decode cX9_minute 33 = .ok (.putfield 127, 3) := by decide +kernel
theorem dX9_minute_36 : decode cX9_minute 36 = .ok (.aload_n 0, 1) := by decide +kernel
theorem dX9_minute_37 : decode cX9_minute 37 = .ok (.getfield 43, 3) := by decide +kernel
theorem dX9_minute_40 : decode cX9_minute 40 = .ok (.getfield 127, 3) := by decide +kernel
theorem dX9_minute_43 : decode cX9_minute 43 = .ok (.ireturn, 1) := by decide +kernel
theorem dX9_fog_0 : decode cX9_fog 0 = .ok (.iload_n 1, 1) := by decide +kernel
theorem dX9_fog_1 : decode cX9_fog 1 = .ok (.ifCond .lt 9, 3) := by decide +kernel
theorem dX9_fog_4 : decode cX9_fog 4 = .ok (.iload_n 1, 1) := by decide +kernel
theorem dX9_fog_5 : decode cX9_fog 5 = .ok (.bipush 20, 2) := by decide +kernel
theorem dX9_fog_7 : decode cX9_fog 7 = .ok (.if_icmp .le 6, 3) := by decide +kernel
theorem dX9_fog_10 : decode cX9_fog 10 = .ok (.ldc 97, 2) := by decide +kernel
theorem dX9_fog_12 : decode cX9_fog 12 = .ok (.ireturn, 1) := by decide +kernel
theorem dX9_fog_13 : decode cX9_fog 13 = .ok (.aload_n 0, 1) := by decide +kernel
theorem dX9_fog_14 : decode cX9_fog 14 = .ok (.getfield 23, 3) := by decide +kernel
theorem dX9_fog_17 : decode cX9_fog 17 = .ok (.getfield 112, 3) := by decide +kernel
theorem dX9_fog_20 : decode cX9_fog 20 = .ok (.ifCond .ne 6, 3) := by decide +kernel
theorem dX9_fog_23 : decode cX9_fog 23 = .ok (.ldc 188, 2) := by decide +kernel
theorem dX9_fog_25 : decode cX9_fog 25 = .ok (.ireturn, 1) := by decide +kernel
theorem dX9_fog_26 : decode cX9_fog 26 = .ok (.aload_n 0, 1) := by decide +kernel
theorem dX9_fog_27 : decode cX9_fog 27 = .ok (.getfield 54, 3) := by decide +kernel
theorem dX9_fog_30 : decode cX9_fog 30 = .ok (.aload_n 0, 1) := by decide +kernel
theorem dX9_fog_31 : decode cX9_fog 31 = .ok (.getfield 43, 3) := by decide +kernel
theorem dX9_fog_34 : decode cX9_fog 34 = .ok (.invokevirtual 189, 3) := by decide +kernel
theorem dX9_fog_37 : decode cX9_fog 37 = .ok (.aload_n 0, 1) := by decide +kernel
theorem dX9_fog_38 : decode cX9_fog 38 = .ok (.getfield 43, 3) := by decide +kernel
theorem dX9_fog_41 : decode cX9_fog 41 = .ok (.getfield 115, 3) := by decide +kernel
theorem dX9_fog_44 : decode cX9_fog 44 = .ok (.istore_n 2, 1) := by decide +kernel
theorem dX9_fog_45 : decode cX9_fog 45 = .ok (.aload_n 0, 1) := by decide +kernel
theorem dX9_fog_46 : decode cX9_fog 46 = .ok (.getfield 43, 3) := by decide +kernel
theorem dX9_fog_49 : decode cX9_fog 49 = .ok (.iload_n 1, 1) := by decide +kernel
theorem dX9_fog_50 : decode cX9_fog 50 = .ok (.putfield 115, 3) := by decide +kernel
theorem dX9_fog_53 : decode cX9_fog 53 = .ok (.iload_n 2, 1) := by decide +kernel
theorem dX9_fog_54 : decode cX9_fog 54 = .ok (.ireturn, 1) := by decide +kernel
theorem dX9_wind_0 : decode cX9_wind 0 = .ok (.iload_n 1, 1) := by decide +kernel
theorem dX9_wind_1 : decode cX9_wind 1 = .ok (.bipush (-5), 2) := by decide +kernel
theorem dX9_wind_3 : decode cX9_wind 3 = .ok (.if_icmp .lt 8, 3) := by decide +kernel
theorem dX9_wind_6 : decode cX9_wind 6 = .ok (.iload_n 1, 1) := by decide +kernel
theorem dX9_wind_7 : decode cX9_wind 7 = .ok (.iconst 5, 1) := by decide +kernel
theorem dX9_wind_8 : decode cX9_wind 8 = .ok (.if_icmp .le 6, 3) := by decide +kernel
theorem dX9_wind_11 : decode cX9_wind 11 = .ok (.ldc 97, 2) := by decide +kernel
theorem dX9_wind_13 : decode cX9_wind 13 = .ok (.ireturn, 1) := by decide +kernel
theorem dX9_wind_14 : decode cX9_wind 14 = .ok (.aload_n 0, 1) := by decide +kernel
theorem dX9_wind_15 : decode cX9_wind 15 = .ok (.getfield 23, 3) := by decide +kernel
theorem dX9_wind_18 : decode cX9_wind 18 = .ok (.getfield 112, 3) := by decide +kernel
theorem dX9_wind_21 : decode cX9_wind 21 = .ok (.ifCond .ne 6, 3) := by decide +kernel
theorem dX9_wind_24 : decode cX9_wind 24 = .ok (.ldc 188, 2) := by decide +kernel
theorem dX9_wind_26 : decode cX9_wind 26 = .ok (.ireturn, 1) := by decide +kernel
theorem dX9_wind_27 : decode cX9_wind 27 = .ok (.aload_n 0, 1) := by decide +kernel
theorem dX9_wind_28 : decode cX9_wind 28 = .ok (.getfield 54, 3) := by decide +kernel
theorem dX9_wind_31 : decode cX9_wind 31 = .ok (.aload_n 0, 1) := by decide +kernel
theorem dX9_wind_32 : decode cX9_wind 32 = .ok (.getfield 43, 3) := by decide +kernel
theorem dX9_wind_35 : decode cX9_wind 35 = .ok (.invokevirtual 189, 3) := by decide +kernel
theorem dX9_wind_38 : decode cX9_wind 38 = .ok (.aload_n 0, 1) := by decide +kernel
theorem dX9_wind_39 : decode cX9_wind 39 = .ok (.getfield 43, 3) := by decide +kernel
theorem dX9_wind_42 : decode cX9_wind 42 = .ok (.getfield 118, 3) := by decide +kernel
theorem dX9_wind_45 : decode cX9_wind 45 = .ok (.istore_n 2, 1) := by decide +kernel
theorem dX9_wind_46 : decode cX9_wind 46 = .ok (.aload_n 0, 1) := by decide +kernel
theorem dX9_wind_47 : decode cX9_wind 47 = .ok (.getfield 43, 3) := by decide +kernel
theorem dX9_wind_50 : decode cX9_wind 50 = .ok (.iload_n 1, 1) := by decide +kernel
theorem dX9_wind_51 : decode cX9_wind 51 = .ok (.putfield 118, 3) := by decide +kernel
theorem dX9_wind_54 : decode cX9_wind 54 = .ok (.iload_n 2, 1) := by decide +kernel
theorem dX9_wind_55 : decode cX9_wind 55 = .ok (.iconst 5, 1) := by decide +kernel
theorem dX9_wind_56 : decode cX9_wind 56 = .ok (.iadd, 1) := by decide +kernel
theorem dX9_wind_57 : decode cX9_wind 57 = .ok (.ireturn, 1) := by decide +kernel
theorem dX9_drift_0 : decode cX9_drift 0 = .ok (.aload_n 0, 1) := by decide +kernel
theorem dX9_drift_1 : decode cX9_drift 1 = .ok (.iload_n 1, 1) := by decide +kernel
theorem dX9_drift_2 : decode cX9_drift 2 = .ok (.invokevirtual 200, 3) := by decide +kernel
theorem dX9_drift_5 : decode cX9_drift 5 = .ok (.istore_n 2, 1) := by decide +kernel
theorem dX9_drift_6 : decode cX9_drift 6 = .ok (.iload_n 2, 1) := by decide +kernel
theorem dX9_drift_7 : decode cX9_drift 7 = .ok (.ifCond .eq 5, 3) := by decide +kernel
theorem dX9_drift_10 : decode cX9_drift 10 = .ok (.iload_n 2, 1) := by decide +kernel
theorem dX9_drift_11 : decode cX9_drift 11 = .ok (.ireturn, 1) := by decide +kernel
theorem dX9_drift_12 : decode cX9_drift 12 = .ok (.aload_n 0, 1) := by decide +kernel
theorem dX9_drift_13 : decode cX9_drift 13 = .ok (.getfield 54, 3) := by decide +kernel
theorem dX9_drift_16 : decode cX9_drift 16 = .ok (.aload_n 0, 1) := by decide +kernel
theorem dX9_drift_17 : decode cX9_drift 17 = .ok (.getfield 43, 3) := by decide +kernel
theorem dX9_drift_20 : decode cX9_drift 20 = .ok (.invokevirtual 189, 3) := by decide +kernel
theorem dX9_drift_23 : decode cX9_drift 23 = .ok (.iconst 0, 1) := by decide +kernel
theorem dX9_drift_24 : decode cX9_drift 24 = .ok (.istore_n 3, 1) := by decide +kernel
theorem dX9_drift_25 : decode cX9_drift 25 = .ok (.iload_n 3, 1) := by decide +kernel
theorem dX9_drift_26 : decode cX9_drift 26 = .ok (.iload_n 1, 1) := by decide +kernel
theorem dX9_drift_27 : decode cX9_drift 27 = .ok (.if_icmp .ge 26, 3) := by decide +kernel
theorem dX9_drift_30 : decode cX9_drift 30 = .ok (.aload_n 0, 1) := by decide +kernel
theorem dX9_drift_31 : decode cX9_drift 31 = .ok (.invokevirtual 203, 3) := by decide +kernel
theorem dX9_drift_34 : decode cX9_drift 34 = .ok (.aload_n 0, 1) := by decide +kernel
theorem dX9_drift_35 : decode cX9_drift 35 = .ok (.getfield 43, 3) := by decide +kernel
theorem dX9_drift_38 : decode cX9_drift 38 = .ok (.dup, 1) := by decide +kernel
theorem dX9_drift_39 : decode cX9_drift 39 = .ok (.getfield 127, 3) := by decide +kernel
theorem dX9_drift_42 : decode cX9_drift 42 = .ok (.iconst 1, 1) := by decide +kernel
theorem dX9_drift_43 : decode cX9_drift 43 = .ok (.iadd, 1) := by decide +kernel
theorem dX9_drift_44 : decode cX9_drift 44 = .ok (.putfield 127, 3) := by decide +kernel
theorem dX9_drift_47 : decode cX9_drift 47 = .ok (.iinc 3 1, 3) := by decide +kernel
theorem dX9_drift_50 : decode cX9_drift 50 = .ok (.goto (-25), 3) := by decide +kernel
theorem dX9_drift_53 : decode cX9_drift 53 = .ok (.aload_n 0, 1) := by decide +kernel
theorem dX9_drift_54 : decode cX9_drift 54 = .ok (.getfield 43, 3) := by decide +kernel
theorem dX9_drift_57 : decode cX9_drift 57 = .ok (.getfield 127, 3) := by decide +kernel
theorem dX9_drift_60 : decode cX9_drift 60 = .ok (.ireturn, 1) := by decide +kernel
theorem dX9_undo_0 : decode cX9_undo 0 = .ok (.aload_n 0, 1) := by decide +kernel
theorem dX9_undo_1 : decode cX9_undo 1 = .ok (.getfield 54, 3) := by decide +kernel
theorem dX9_undo_4 : decode cX9_undo 4 = .ok (.getfield 143, 3) := by decide +kernel
theorem dX9_undo_7 : decode cX9_undo 7 = .ok (.ifCond .ne 6, 3) := by decide +kernel
theorem dX9_undo_10 : decode cX9_undo 10 = .ok (.ldc 188, 2) := by decide +kernel
theorem dX9_undo_12 : decode cX9_undo 12 = .ok (.ireturn, 1) := by decide +kernel
theorem dX9_undo_13 : decode cX9_undo 13 = .ok (.aload_n 0, 1) := by decide +kernel
theorem dX9_undo_14 : decode cX9_undo 14 = .ok (.getfield 54, 3) := by decide +kernel
theorem dX9_undo_17 : decode cX9_undo 17 = .ok (.aload_n 0, 1) := by decide +kernel
theorem dX9_undo_18 : decode cX9_undo 18 = .ok (.getfield 43, 3) := by decide +kernel
theorem dX9_undo_21 : decode cX9_undo 21 = .ok (.invokevirtual 206, 3) := by decide +kernel
theorem dX9_undo_24 : decode cX9_undo 24 = .ok (.aload_n 0, 1) := by decide +kernel
theorem dX9_undo_25 : decode cX9_undo 25 = .ok (.getfield 54, 3) := by decide +kernel
theorem dX9_undo_28 : decode cX9_undo 28 = .ok (.getfield 143, 3) := by decide +kernel
theorem dX9_undo_31 : decode cX9_undo 31 = .ok (.ireturn, 1) := by decide +kernel
theorem dX9_order_0 : decode cX9_order 0 = .ok (.aload_n 0, 1) := by decide +kernel
theorem dX9_order_1 : decode cX9_order 1 = .ok (.getfield 23, 3) := by decide +kernel
theorem dX9_order_4 : decode cX9_order 4 = .ok (.iload_n 1, 1) := by decide +kernel
theorem dX9_order_5 : decode cX9_order 5 = .ok (.invokevirtual 209, 3) := by decide +kernel
theorem dX9_order_8 : decode cX9_order 8 = .ok (.ifCond .ne 6, 3) := by decide +kernel
theorem dX9_order_11 : decode cX9_order 11 = .ok (.ldc 148, 2) := by decide +kernel
theorem dX9_order_13 : decode cX9_order 13 = .ok (.ireturn, 1) := by decide +kernel
theorem dX9_order_14 : decode cX9_order 14 = .ok (.iload_n 1, 1) := by decide +kernel
theorem dX9_order_15 : decode cX9_order 15 = .ok (.invokestatic 133, 3) := by decide +kernel
theorem dX9_order_18 : decode cX9_order 18 = .ok (.istore_n 3, 1) := by decide +kernel
theorem dX9_order_19 : decode cX9_order 19 = .ok (.iload_n 3, 1) := by decide +kernel
theorem dX9_order_20 : decode cX9_order 20 = .ok (.bipush 6, 2) := by decide +kernel
theorem dX9_order_22 : decode cX9_order 22 = .ok (.if_icmp .le 6, 3) := by decide +kernel
theorem dX9_order_25 : decode cX9_order 25 = .ok (.ldc 97, 2) := by decide +kernel
theorem dX9_order_27 : decode cX9_order 27 = .ok (.ireturn, 1) := by decide +kernel
theorem dX9_order_28 : decode cX9_order 28 = .ok (.iload_n 2, 1) := by decide +kernel
theorem dX9_order_29 : decode cX9_order 29 = .ok (.ifCond .lt 27, 3) := by decide +kernel
theorem dX9_order_32 : decode cX9_order 32 = .ok (.iload_n 2, 1) := by decide +kernel
theorem dX9_order_33 : decode cX9_order 33 = .ok (.iload_n 3, 1) := by decide +kernel
theorem dX9_order_34 : decode cX9_order 34 = .ok (.if_icmp .ge 22, 3) := by decide +kernel
theorem dX9_order_37 : decode cX9_order 37 = .ok (.aload_n 0, 1) := by decide +kernel
theorem dX9_order_38 : decode cX9_order 38 = .ok (.getfield 72, 3) := by decide +kernel
theorem dX9_order_41 : decode cX9_order 41 = .ok (.aload_n 0, 1) := by decide +kernel
theorem dX9_order_42 : decode cX9_order 42 = .ok (.getfield 23, 3) := by decide +kernel
theorem dX9_order_45 : decode cX9_order 45 = .ok (.aload_n 0, 1) := by decide +kernel
theorem dX9_order_46 : decode cX9_order 46 = .ok (.getfield 43, 3) := by decide +kernel
theorem dX9_order_49 : decode cX9_order 49 = .ok (.iload_n 1, 1) := by decide +kernel
theorem dX9_order_50 : decode cX9_order 50 = .ok (.invokevirtual 212, 3) := by decide +kernel
theorem dX9_order_53 : decode cX9_order 53 = .ok (.ifCond .ne 5, 3) := by decide +kernel
theorem dX9_order_56 : decode cX9_order 56 = .ok (.iconst (-1), 1) := by decide +kernel
theorem dX9_order_57 : decode cX9_order 57 = .ok (.ireturn, 1) := by decide +kernel
theorem dX9_order_58 : decode cX9_order 58 = .ok (.aload_n 0, 1) := by decide +kernel
theorem dX9_order_59 : decode cX9_order 59 = .ok (.getfield 72, 3) := by decide +kernel
theorem dX9_order_62 : decode cX9_order 62 = .ok (.getfield 216, 3) := by decide +kernel
theorem dX9_order_65 : decode cX9_order 65 = .ok (.iload_n 2, 1) := by decide +kernel
theorem dX9_order_66 : decode cX9_order 66 = .ok (.iaload, 1) := by decide +kernel
theorem dX9_order_67 : decode cX9_order 67 = .ok (.ireturn, 1) := by decide +kernel
theorem dX9_signers_0 : decode cX9_signers 0 = .ok (.aload_n 0, 1) := by decide +kernel
theorem dX9_signers_1 : decode cX9_signers 1 = .ok (.getfield 23, 3) := by decide +kernel
theorem dX9_signers_4 : decode cX9_signers 4 = .ok (.iload_n 1, 1) := by decide +kernel
theorem dX9_signers_5 : decode cX9_signers 5 = .ok (.invokevirtual 144, 3) := by decide +kernel
theorem dX9_signers_8 : decode cX9_signers 8 = .ok (.ifCond .ne 6, 3) := by decide +kernel
theorem dX9_signers_11 : decode cX9_signers 11 = .ok (.ldc 148, 2) := by decide +kernel
theorem dX9_signers_13 : decode cX9_signers 13 = .ok (.ireturn, 1) := by decide +kernel
theorem dX9_signers_14 : decode cX9_signers 14 = .ok (.iconst 0, 1) := by decide +kernel
theorem dX9_signers_15 : decode cX9_signers 15 = .ok (.istore_n 2, 1) := by decide +kernel
theorem dX9_signers_16 : decode cX9_signers 16 = .ok (.iconst 0, 1) := by decide +kernel
theorem dX9_signers_17 : decode cX9_signers 17 = .ok (.istore_n 3, 1) := by decide +kernel
theorem dX9_signers_18 : decode cX9_signers 18 = .ok (.iload_n 3, 1) := by decide +kernel
theorem dX9_signers_19 : decode cX9_signers 19 = .ok (.aload_n 0, 1) := by decide +kernel
theorem dX9_signers_20 : decode cX9_signers 20 = .ok (.getfield 23, 3) := by decide +kernel
theorem dX9_signers_23 : decode cX9_signers 23 = .ok (.getfield 111, 3) := by decide +kernel
theorem dX9_signers_26 : decode cX9_signers 26 = .ok (.if_icmp .ge 27, 3) := by decide +kernel
theorem dX9_signers_29 : decode cX9_signers 29 = .ok (.aload_n 0, 1) := by decide +kernel
theorem dX9_signers_30 : decode cX9_signers 30 = .ok (.getfield 23, 3) := by decide +kernel
theorem dX9_signers_33 : decode cX9_signers 33 = .ok (.iload_n 3, 1) := by decide +kernel
theorem dX9_signers_34 : decode cX9_signers 34 = .ok (.invokevirtual 171, 3) := by decide +kernel
theorem dX9_signers_37 : decode cX9_signers 37 = .ok (.iload_n 1, 1) := by decide +kernel
theorem dX9_signers_38 : decode cX9_signers 38 = .ok (.if_icmp .ne 9, 3) := by decide +kernel
theorem dX9_signers_41 : decode cX9_signers 41 = .ok (.iload_n 2, 1) := by decide +kernel
theorem dX9_signers_42 : decode cX9_signers 42 = .ok (.iconst 1, 1) := by decide +kernel
theorem dX9_signers_43 : decode cX9_signers 43 = .ok (.iload_n 3, 1) := by decide +kernel
theorem dX9_signers_44 : decode cX9_signers 44 = .ok (.ishl, 1) := by decide +kernel
theorem dX9_signers_45 : decode cX9_signers 45 = .ok (.ior, 1) := by decide +kernel
theorem dX9_signers_46 : decode cX9_signers 46 = .ok (.istore_n 2, 1) := by decide +kernel
theorem dX9_signers_47 : decode cX9_signers 47 = .ok (.iinc 3 1, 3) := by decide +kernel
theorem dX9_signers_50 : decode cX9_signers 50 = .ok (.goto (-32), 3) := by decide +kernel
theorem dX9_signers_53 : decode cX9_signers 53 = .ok (.iload_n 2, 1) := by decide +kernel
theorem dX9_signers_54 : decode cX9_signers 54 = .ok (.ireturn, 1) := by decide +kernel
theorem dX9_farShore_0 : decode cX9_farShore 0 = .ok (.iload_n 1, 1) := by decide +kernel
theorem dX9_farShore_1 : decode cX9_farShore 1 = .ok (.ifCond .eq 11, 3) := by decide +kernel
theorem dX9_farShore_4 : decode cX9_farShore 4 = .ok (.iload_n 1, 1) := by decide +kernel
theorem dX9_farShore_5 : decode cX9_farShore 5 = .ok (.iconst 1, 1) := by decide +kernel
theorem dX9_farShore_6 : decode cX9_farShore 6 = .ok (.if_icmp .eq 6, 3) := by decide +kernel
theorem dX9_farShore_9 : decode cX9_farShore 9 = .ok (.ldc 97, 2) := by decide +kernel
theorem dX9_farShore_11 : decode cX9_farShore 11 = .ok (.ireturn, 1) := by decide +kernel
theorem dX9_farShore_12 : decode cX9_farShore 12 = .ok (.iconst 0, 1) := by decide +kernel
theorem dX9_farShore_13 : decode cX9_farShore 13 = .ok (.istore_n 2, 1) := by decide +kernel
theorem dX9_farShore_14 : decode cX9_farShore 14 = .ok (.iconst 0, 1) := by decide +kernel
theorem dX9_farShore_15 : decode cX9_farShore 15 = .ok (.istore_n 3, 1) := by decide +kernel
theorem dX9_farShore_16 : decode cX9_farShore 16 = .ok (.iload_n 3, 1) := by decide +kernel
theorem dX9_farShore_17 : decode cX9_farShore 17 = .ok (.aload_n 0, 1) := by decide +kernel
theorem dX9_farShore_18 : decode cX9_farShore 18 = .ok (.getfield 23, 3) := by decide +kernel
theorem dX9_farShore_21 : decode cX9_farShore 21 = .ok (.getfield 111, 3) := by decide +kernel
theorem dX9_farShore_24 : decode cX9_farShore 24 = .ok (.if_icmp .ge 79, 3) := by decide +kernel
theorem dX9_farShore_27 : decode cX9_farShore 27 = .ok (.aload_n 0, 1) := by decide +kernel
theorem dX9_farShore_28 : decode cX9_farShore 28 = .ok (.getfield 23, 3) := by decide +kernel
theorem dX9_farShore_31 : decode cX9_farShore 31 = .ok (.aload_n 0, 1) := by decide +kernel
theorem dX9_farShore_32 : decode cX9_farShore 32 = .ok (.getfield 23, 3) := by decide +kernel
theorem dX9_farShore_35 : decode cX9_farShore 35 = .ok (.getfield 158, 3) := by decide +kernel
theorem dX9_farShore_38 : decode cX9_farShore 38 = .ok (.iload_n 3, 1) := by decide +kernel
theorem dX9_farShore_39 : decode cX9_farShore 39 = .ok (.iaload, 1) := by decide +kernel
theorem dX9_farShore_40 : decode cX9_farShore 40 = .ok (.invokestatic 219, 3) := by decide +kernel
theorem dX9_farShore_43 : decode cX9_farShore 43 = .ok (.invokevirtual 222, 3) := by decide +kernel
theorem dX9_farShore_46 : decode cX9_farShore 46 = .ok (.istore 4, 2) := by decide +kernel
theorem dX9_farShore_48 : decode cX9_farShore 48 = .ok (.iload_n 1, 1) := by decide +kernel
theorem dX9_farShore_49 : decode cX9_farShore 49 = .ok (.iconst 1, 1) := by decide +kernel
theorem dX9_farShore_50 : decode cX9_farShore 50 = .ok (.if_icmp .ne 17, 3) := by decide +kernel
theorem dX9_farShore_53 : decode cX9_farShore 53 = .ok (.iload 4, 2) := by decide +kernel
theorem dX9_farShore_55 : decode cX9_farShore 55 = .ok (.iload_n 3, 1) := by decide +kernel
theorem dX9_farShore_56 : decode cX9_farShore 56 = .ok (.if_icmp .ne 7, 3) := by decide +kernel
theorem dX9_farShore_59 : decode cX9_farShore 59 = .ok (.iconst 1, 1) := by decide +kernel
theorem dX9_farShore_60 : decode cX9_farShore 60 = .ok (.goto 24, 3) := by decide +kernel
theorem dX9_farShore_63 : decode cX9_farShore 63 = .ok (.iconst 0, 1) := by decide +kernel
theorem dX9_farShore_64 : decode cX9_farShore 64 = .ok (.goto 20, 3) := by decide +kernel
theorem dX9_farShore_67 : decode cX9_farShore 67 = .ok (.iload 4, 2) := by decide +kernel
theorem dX9_farShore_69 : decode cX9_farShore 69 = .ok (.iconst (-1), 1) := by decide +kernel
theorem dX9_farShore_70 : decode cX9_farShore 70 = .ok (.if_icmp .eq 13, 3) := by decide +kernel
theorem dX9_farShore_73 : decode cX9_farShore 73 = .ok (.iload 4, 2) := by decide +kernel
theorem dX9_farShore_75 : decode cX9_farShore 75 = .ok (.iload_n 3, 1) := by decide +kernel
theorem dX9_farShore_76 : decode cX9_farShore 76 = .ok (.if_icmp .eq 7, 3) := by decide +kernel
theorem dX9_farShore_79 : decode cX9_farShore 79 = .ok (.iconst 1, 1) := by decide +kernel
theorem dX9_farShore_80 : decode cX9_farShore 80 = .ok (.goto 4, 3) := by decide +kernel
theorem dX9_farShore_83 : decode cX9_farShore 83 = .ok (.iconst 0, 1) := by decide +kernel
theorem dX9_farShore_84 : decode cX9_farShore 84 = .ok (.istore 5, 2) := by decide +kernel
theorem dX9_farShore_86 : decode cX9_farShore 86 = .ok (.iload 5, 2) := by decide +kernel
theorem dX9_farShore_88 : decode cX9_farShore 88 = .ok (.ifCond .eq 9, 3) := by decide +kernel
theorem dX9_farShore_91 : decode cX9_farShore 91 = .ok (.iload_n 2, 1) := by decide +kernel
theorem dX9_farShore_92 : decode cX9_farShore 92 = .ok (.iconst 1, 1) := by decide +kernel
theorem dX9_farShore_93 : decode cX9_farShore 93 = .ok (.iload_n 3, 1) := by decide +kernel
theorem dX9_farShore_94 : decode cX9_farShore 94 = .ok (.ishl, 1) := by decide +kernel
theorem dX9_farShore_95 : decode cX9_farShore 95 = .ok (.ior, 1) := by decide +kernel
theorem dX9_farShore_96 : decode cX9_farShore 96 = .ok (.istore_n 2, 1) := by decide +kernel
theorem dX9_farShore_97 : decode cX9_farShore 97 = .ok (.iinc 3 1, 3) := by decide +kernel
theorem dX9_farShore_100 : decode cX9_farShore 100 = .ok (.goto (-84), 3) := by decide +kernel
theorem dX9_farShore_103 : decode cX9_farShore 103 = .ok (.iload_n 2, 1) := by decide +kernel
theorem dX9_farShore_104 : decode cX9_farShore 104 = .ok (.ireturn, 1) := by decide +kernel
theorem dX9_cross_0 : decode cX9_cross 0 = .ok (.aload_n 0, 1) := by decide +kernel
theorem dX9_cross_1 : decode cX9_cross 1 = .ok (.getfield 23, 3) := by decide +kernel
theorem dX9_cross_4 : decode cX9_cross 4 = .ok (.iload_n 1, 1) := by decide +kernel
theorem dX9_cross_5 : decode cX9_cross 5 = .ok (.iload_n 2, 1) := by decide +kernel
theorem dX9_cross_6 : decode cX9_cross 6 = .ok (.invokevirtual 174, 3) := by decide +kernel
theorem dX9_cross_9 : decode cX9_cross 9 = .ok (.ifCond .ne 6, 3) := by decide +kernel
theorem dX9_cross_12 : decode cX9_cross 12 = .ok (.ldc 148, 2) := by decide +kernel
theorem dX9_cross_14 : decode cX9_cross 14 = .ok (.ireturn, 1) := by decide +kernel
theorem dX9_cross_15 : decode cX9_cross 15 = .ok (.aload_n 0, 1) := by decide +kernel
theorem dX9_cross_16 : decode cX9_cross 16 = .ok (.getfield 23, 3) := by decide +kernel
theorem dX9_cross_19 : decode cX9_cross 19 = .ok (.iload_n 1, 1) := by decide +kernel
theorem dX9_cross_20 : decode cX9_cross 20 = .ok (.iload_n 2, 1) := by decide +kernel
theorem dX9_cross_21 : decode cX9_cross 21 = .ok (.invokevirtual 225, 3) := by decide +kernel
theorem dX9_cross_24 : decode cX9_cross 24 = .ok (.iconst 2, 1) := by decide +kernel
theorem dX9_cross_25 : decode cX9_cross 25 = .ok (.if_icmp .eq 5, 3) := by decide +kernel
theorem dX9_cross_28 : decode cX9_cross 28 = .ok (.iconst (-1), 1) := by decide +kernel
theorem dX9_cross_29 : decode cX9_cross 29 = .ok (.ireturn, 1) := by decide +kernel
theorem dX9_cross_30 : decode cX9_cross 30 = .ok (.aload_n 0, 1) := by decide +kernel
theorem dX9_cross_31 : decode cX9_cross 31 = .ok (.getfield 23, 3) := by decide +kernel
theorem dX9_cross_34 : decode cX9_cross 34 = .ok (.aload_n 0, 1) := by decide +kernel
theorem dX9_cross_35 : decode cX9_cross 35 = .ok (.getfield 23, 3) := by decide +kernel
theorem dX9_cross_38 : decode cX9_cross 38 = .ok (.getfield 149, 3) := by decide +kernel
theorem dX9_cross_41 : decode cX9_cross 41 = .ok (.iload_n 1, 1) := by decide +kernel
theorem dX9_cross_42 : decode cX9_cross 42 = .ok (.iaload, 1) := by decide +kernel
theorem dX9_cross_43 : decode cX9_cross 43 = .ok (.aload_n 0, 1) := by decide +kernel
theorem dX9_cross_44 : decode cX9_cross 44 = .ok (.getfield 23, 3) := by decide +kernel
theorem dX9_cross_47 : decode cX9_cross 47 = .ok (.getfield 149, 3) := by decide +kernel
theorem dX9_cross_50 : decode cX9_cross 50 = .ok (.iload_n 2, 1) := by decide +kernel
theorem dX9_cross_51 : decode cX9_cross 51 = .ok (.iaload, 1) := by decide +kernel
theorem dX9_cross_52 : decode cX9_cross 52 = .ok (.invokestatic 229, 3) := by decide +kernel
theorem dX9_cross_55 : decode cX9_cross 55 = .ok (.iconst 1, 1) := by decide +kernel
theorem dX9_cross_56 : decode cX9_cross 56 = .ok (.iadd, 1) := by decide +kernel
theorem dX9_cross_57 : decode cX9_cross 57 = .ok (.invokevirtual 234, 3) := by decide +kernel
theorem dX9_cross_60 : decode cX9_cross 60 = .ok (.ireturn, 1) := by decide +kernel
theorem dX9_treaty_0 : decode cX9_treaty 0 = .ok (.aload_n 0, 1) := by decide +kernel
theorem dX9_treaty_1 : decode cX9_treaty 1 = .ok (.getfield 23, 3) := by decide +kernel
theorem dX9_treaty_4 : decode cX9_treaty 4 = .ok (.iload_n 1, 1) := by decide +kernel
theorem dX9_treaty_5 : decode cX9_treaty 5 = .ok (.invokevirtual 209, 3) := by decide +kernel
theorem dX9_treaty_8 : decode cX9_treaty 8 = .ok (.ifCond .ne 6, 3) := by decide +kernel
theorem dX9_treaty_11 : decode cX9_treaty 11 = .ok (.ldc 148, 2) := by decide +kernel
theorem dX9_treaty_13 : decode cX9_treaty 13 = .ok (.ireturn, 1) := by decide +kernel
theorem dX9_treaty_14 : decode cX9_treaty 14 = .ok (.iconst 0, 1) := by decide +kernel
theorem dX9_treaty_15 : decode cX9_treaty 15 = .ok (.istore_n 2, 1) := by decide +kernel
theorem dX9_treaty_16 : decode cX9_treaty 16 = .ok (.iconst 0, 1) := by decide +kernel
theorem dX9_treaty_17 : decode cX9_treaty 17 = .ok (.istore_n 3, 1) := by decide +kernel
theorem dX9_treaty_18 : decode cX9_treaty 18 = .ok (.iload_n 3, 1) := by decide +kernel
theorem dX9_treaty_19 : decode cX9_treaty 19 = .ok (.aload_n 0, 1) := by decide +kernel
theorem dX9_treaty_20 : decode cX9_treaty 20 = .ok (.getfield 23, 3) := by decide +kernel
theorem dX9_treaty_23 : decode cX9_treaty 23 = .ok (.getfield 111, 3) := by decide +kernel
theorem dX9_treaty_26 : decode cX9_treaty 26 = .ok (.if_icmp .ge 34, 3) := by decide +kernel
theorem dX9_treaty_29 : decode cX9_treaty 29 = .ok (.iload_n 1, 1) := by decide +kernel
theorem dX9_treaty_30 : decode cX9_treaty 30 = .ok (.iload_n 3, 1) := by decide +kernel
theorem dX9_treaty_31 : decode cX9_treaty 31 = .ok (.ishr, 1) := by decide +kernel
theorem dX9_treaty_32 : decode cX9_treaty 32 = .ok (.iconst 1, 1) := by decide +kernel
theorem dX9_treaty_33 : decode cX9_treaty 33 = .ok (.iand, 1) := by decide +kernel
theorem dX9_treaty_34 : decode cX9_treaty 34 = .ok (.iconst 1, 1) := by decide +kernel
theorem dX9_treaty_35 : decode cX9_treaty 35 = .ok (.if_icmp .ne 19, 3) := by decide +kernel
theorem dX9_treaty_38 : decode cX9_treaty 38 = .ok (.iload_n 2, 1) := by decide +kernel
theorem dX9_treaty_39 : decode cX9_treaty 39 = .ok (.aload_n 0, 1) := by decide +kernel
theorem dX9_treaty_40 : decode cX9_treaty 40 = .ok (.getfield 43, 3) := by decide +kernel
theorem dX9_treaty_43 : decode cX9_treaty 43 = .ok (.aload_n 0, 1) := by decide +kernel
theorem dX9_treaty_44 : decode cX9_treaty 44 = .ok (.getfield 23, 3) := by decide +kernel
theorem dX9_treaty_47 : decode cX9_treaty 47 = .ok (.iload_n 3, 1) := by decide +kernel
theorem dX9_treaty_48 : decode cX9_treaty 48 = .ok (.iload_n 1, 1) := by decide +kernel
theorem dX9_treaty_49 : decode cX9_treaty 49 = .ok (.invokevirtual 237, 3) := by decide +kernel
theorem dX9_treaty_52 : decode cX9_treaty 52 = .ok (.iadd, 1) := by decide +kernel
theorem dX9_treaty_53 : decode cX9_treaty 53 = .ok (.istore_n 2, 1) := by decide +kernel
theorem dX9_treaty_54 : decode cX9_treaty 54 = .ok (.iinc 3 1, 3) := by decide +kernel
theorem dX9_treaty_57 : decode cX9_treaty 57 = .ok (.goto (-39), 3) := by decide +kernel
theorem dX9_treaty_60 : decode cX9_treaty 60 = .ok (.iload_n 2, 1) := by decide +kernel
theorem dX9_treaty_61 : decode cX9_treaty 61 = .ok (.ireturn, 1) := by decide +kernel
theorem dX9_forged_0 : decode cX9_forged 0 = .ok (.aload_n 0, 1) := by decide +kernel
theorem dX9_forged_1 : decode cX9_forged 1 = .ok (.getfield 23, 3) := by decide +kernel
theorem dX9_forged_4 : decode cX9_forged 4 = .ok (.iload_n 1, 1) := by decide +kernel
theorem dX9_forged_5 : decode cX9_forged 5 = .ok (.invokevirtual 144, 3) := by decide +kernel
theorem dX9_forged_8 : decode cX9_forged 8 = .ok (.ifCond .ne 6, 3) := by decide +kernel
theorem dX9_forged_11 : decode cX9_forged 11 = .ok (.ldc 148, 2) := by decide +kernel
theorem dX9_forged_13 : decode cX9_forged 13 = .ok (.ireturn, 1) := by decide +kernel
theorem dX9_forged_14 : decode cX9_forged 14 = .ok (.iload_n 2, 1) := by decide +kernel
theorem dX9_forged_15 : decode cX9_forged 15 = .ok (.invokestatic 241, 3) := by decide +kernel
theorem dX9_forged_18 : decode cX9_forged 18 = .ok (.ifCond .eq 12, 3) := by decide +kernel
theorem dX9_forged_21 : decode cX9_forged 21 = .ok (.iload_n 3, 1) := by decide +kernel
theorem dX9_forged_22 : decode cX9_forged 22 = .ok (.ifCond .lt 8, 3) := by decide +kernel
theorem dX9_forged_25 : decode cX9_forged 25 = .ok (.iload_n 3, 1) := by decide +kernel
theorem dX9_forged_26 : decode cX9_forged 26 = .ok (.iconst 1, 1) := by decide +kernel
theorem dX9_forged_27 : decode cX9_forged 27 = .ok (.if_icmp .le 6, 3) := by decide +kernel
theorem dX9_forged_30 : decode cX9_forged 30 = .ok (.ldc 97, 2) := by decide +kernel
theorem dX9_forged_32 : decode cX9_forged 32 = .ok (.ireturn, 1) := by decide +kernel
theorem dX9_forged_33 : decode cX9_forged 33 = .ok (.aload_n 0, 1) := by decide +kernel
theorem dX9_forged_34 : decode cX9_forged 34 = .ok (.getfield 23, 3) := by decide +kernel
theorem dX9_forged_37 : decode cX9_forged 37 = .ok (.getfield 158, 3) := by decide +kernel
theorem dX9_forged_40 : decode cX9_forged 40 = .ok (.iload_n 1, 1) := by decide +kernel
theorem dX9_forged_41 : decode cX9_forged 41 = .ok (.iaload, 1) := by decide +kernel
theorem dX9_forged_42 : decode cX9_forged 42 = .ok (.iload_n 2, 1) := by decide +kernel
theorem dX9_forged_43 : decode cX9_forged 43 = .ok (.invokestatic 244, 3) := by decide +kernel
theorem dX9_forged_46 : decode cX9_forged 46 = .ok (.istore 4, 2) := by decide +kernel
end
section
theorem dX9_forged_48 : decode cX9_forged 48 = .ok (.iload_n 3, 1) := by decide +kernel
theorem dX9_forged_49 : decode cX9_forged 49 = .ok (.ifCond .ne 6, 3) := by decide +kernel
theorem dX9_forged_52 : decode cX9_forged 52 = .ok (.iload 4, 2) := by decide +kernel
theorem dX9_forged_54 : decode cX9_forged 54 = .ok (.ireturn, 1) := by decide +kernel
theorem dX9_forged_55 : decode cX9_forged 55 = .ok (.aload_n 0, 1) := by decide +kernel
theorem dX9_forged_56 : decode cX9_forged 56 = .ok (.getfield 23, 3) := by decide +kernel
theorem dX9_forged_59 : decode cX9_forged 59 = .ok (.getfield 158, 3) := by decide +kernel
theorem dX9_forged_62 : decode cX9_forged 62 = .ok (.iload_n 1, 1) := by decide +kernel
theorem dX9_forged_63 : decode cX9_forged 63 = .ok (.iaload, 1) := by decide +kernel
theorem dX9_forged_64 : decode cX9_forged 64 = .ok (.invokestatic 161, 3) := by decide +kernel
theorem dX9_forged_67 : decode cX9_forged 67 = .ok (.iload_n 2, 1) := by decide +kernel
theorem dX9_forged_68 : decode cX9_forged 68 = .ok (.invokestatic 161, 3) := by decide +kernel
theorem dX9_forged_71 : decode cX9_forged 71 = .ok (.invokestatic 247, 3) := by decide +kernel
theorem dX9_forged_74 : decode cX9_forged 74 = .ok (.istore 5, 2) := by decide +kernel
theorem dX9_forged_76 : decode cX9_forged 76 = .ok (.ldc 250, 2) := by decide +kernel
theorem dX9_forged_78 : decode cX9_forged 78 = .ok (.bipush 90, 2) := by decide +kernel
theorem dX9_forged_80 : decode cX9_forged 80 = .ok (.iload 5, 2) := by decide +kernel
theorem dX9_forged_82 : decode cX9_forged 82 = .ok (.iload 4, 2) := by decide +kernel
theorem dX9_forged_84 : decode cX9_forged 84 = .ok (.isub, 1) := by decide +kernel
theorem dX9_forged_85 : decode cX9_forged 85 = .ok (.invokestatic 251, 3) := by decide +kernel
theorem dX9_forged_88 : decode cX9_forged 88 = .ok (.bipush 10, 2) := by decide +kernel
theorem dX9_forged_90 : decode cX9_forged 90 = .ok (.iload 4, 2) := by decide +kernel
theorem dX9_forged_92 : decode cX9_forged 92 = .ok (.invokestatic 251, 3) := by decide +kernel
theorem dX9_forged_95 : decode cX9_forged 95 = .ok (.ireturn, 1) := by decide +kernel
theorem dX9_damp_0 : decode cX9_damp 0 = .ok (.aload_n 0, 1) := by decide +kernel
theorem dX9_damp_1 : decode cX9_damp 1 = .ok (.getfield 23, 3) := by decide +kernel
theorem dX9_damp_4 : decode cX9_damp 4 = .ok (.iload_n 1, 1) := by decide +kernel
theorem dX9_damp_5 : decode cX9_damp 5 = .ok (.invokevirtual 209, 3) := by decide +kernel
theorem dX9_damp_8 : decode cX9_damp 8 = .ok (.ifCond .ne 6, 3) := by decide +kernel
theorem dX9_damp_11 : decode cX9_damp 11 = .ok (.ldc 148, 2) := by decide +kernel
theorem dX9_damp_13 : decode cX9_damp 13 = .ok (.ireturn, 1) := by decide +kernel
theorem dX9_damp_14 : decode cX9_damp 14 = .ok (.ldc 250, 2) := by decide +kernel
theorem dX9_damp_16 : decode cX9_damp 16 = .ok (.istore_n 2, 1) := by decide +kernel
theorem dX9_damp_17 : decode cX9_damp 17 = .ok (.iconst 0, 1) := by decide +kernel
theorem dX9_damp_18 : decode cX9_damp 18 = .ok (.istore_n 3, 1) := by decide +kernel
theorem dX9_damp_19 : decode cX9_damp 19 = .ok (.iload_n 3, 1) := by decide +kernel
theorem dX9_damp_20 : decode cX9_damp 20 = .ok (.aload_n 0, 1) := by decide +kernel
theorem dX9_damp_21 : decode cX9_damp 21 = .ok (.getfield 23, 3) := by decide +kernel
theorem dX9_damp_24 : decode cX9_damp 24 = .ok (.getfield 111, 3) := by decide +kernel
theorem dX9_damp_27 : decode cX9_damp 27 = .ok (.if_icmp .ge 45, 3) := by decide +kernel
theorem dX9_damp_30 : decode cX9_damp 30 = .ok (.iload_n 1, 1) := by decide +kernel
theorem dX9_damp_31 : decode cX9_damp 31 = .ok (.iload_n 3, 1) := by decide +kernel
theorem dX9_damp_32 : decode cX9_damp 32 = .ok (.ishr, 1) := by decide +kernel
theorem dX9_damp_33 : decode cX9_damp 33 = .ok (.iconst 1, 1) := by decide +kernel
theorem dX9_damp_34 : decode cX9_damp 34 = .ok (.iand, 1) := by decide +kernel
theorem dX9_damp_35 : decode cX9_damp 35 = .ok (.iconst 1, 1) := by decide +kernel
theorem dX9_damp_36 : decode cX9_damp 36 = .ok (.if_icmp .ne 30, 3) := by decide +kernel
theorem dX9_damp_39 : decode cX9_damp 39 = .ok (.iload_n 2, 1) := by decide +kernel
theorem dX9_damp_40 : decode cX9_damp 40 = .ok (.bipush 100, 2) := by decide +kernel
theorem dX9_damp_42 : decode cX9_damp 42 = .ok (.aload_n 0, 1) := by decide +kernel
theorem dX9_damp_43 : decode cX9_damp 43 = .ok (.getfield 23, 3) := by decide +kernel
theorem dX9_damp_46 : decode cX9_damp 46 = .ok (.getfield 124, 3) := by decide +kernel
theorem dX9_damp_49 : decode cX9_damp 49 = .ok (.isub, 1) := by decide +kernel
theorem dX9_damp_50 : decode cX9_damp 50 = .ok (.aload_n 0, 1) := by decide +kernel
theorem dX9_damp_51 : decode cX9_damp 51 = .ok (.getfield 23, 3) := by decide +kernel
theorem dX9_damp_54 : decode cX9_damp 54 = .ok (.getfield 158, 3) := by decide +kernel
theorem dX9_damp_57 : decode cX9_damp 57 = .ok (.iload_n 3, 1) := by decide +kernel
theorem dX9_damp_58 : decode cX9_damp 58 = .ok (.iaload, 1) := by decide +kernel
theorem dX9_damp_59 : decode cX9_damp 59 = .ok (.invokestatic 255, 3) := by decide +kernel
theorem dX9_damp_62 : decode cX9_damp 62 = .ok (.invokestatic 251, 3) := by decide +kernel
theorem dX9_damp_65 : decode cX9_damp 65 = .ok (.istore_n 2, 1) := by decide +kernel
theorem dX9_damp_66 : decode cX9_damp 66 = .ok (.iinc 3 1, 3) := by decide +kernel
theorem dX9_damp_69 : decode cX9_damp 69 = .ok (.goto (-50), 3) := by decide +kernel
theorem dX9_damp_72 : decode cX9_damp 72 = .ok (.iload_n 2, 1) := by decide +kernel
theorem dX9_damp_73 : decode cX9_damp 73 = .ok (.ireturn, 1) := by decide +kernel
theorem dX9_partner_0 : decode cX9_partner 0 = .ok (.aload_n 0, 1) := by decide +kernel
theorem dX9_partner_1 : decode cX9_partner 1 = .ok (.getfield 23, 3) := by decide +kernel
theorem dX9_partner_4 : decode cX9_partner 4 = .ok (.iload_n 1, 1) := by decide +kernel
theorem dX9_partner_5 : decode cX9_partner 5 = .ok (.invokevirtual 144, 3) := by decide +kernel
theorem dX9_partner_8 : decode cX9_partner 8 = .ok (.ifCond .ne 6, 3) := by decide +kernel
theorem dX9_partner_11 : decode cX9_partner 11 = .ok (.ldc 148, 2) := by decide +kernel
theorem dX9_partner_13 : decode cX9_partner 13 = .ok (.ireturn, 1) := by decide +kernel
theorem dX9_partner_14 : decode cX9_partner 14 = .ok (.aload_n 0, 1) := by decide +kernel
theorem dX9_partner_15 : decode cX9_partner 15 = .ok (.getfield 79, 3) := by decide +kernel
theorem dX9_partner_18 : decode cX9_partner 18 = .ok (.aload_n 0, 1) := by decide +kernel
theorem dX9_partner_19 : decode cX9_partner 19 = .ok (.getfield 23, 3) := by decide +kernel
theorem dX9_partner_22 : decode cX9_partner 22 = .ok (.aload_n 0, 1) := by decide +kernel
theorem dX9_partner_23 : decode cX9_partner 23 = .ok (.getfield 43, 3) := by decide +kernel
theorem dX9_partner_26 : decode cX9_partner 26 = .ok (.invokevirtual 258, 3) := by decide +kernel
theorem dX9_partner_29 : decode cX9_partner 29 = .ok (.aload_n 0, 1) := by decide +kernel
theorem dX9_partner_30 : decode cX9_partner 30 = .ok (.getfield 79, 3) := by decide +kernel
theorem dX9_partner_33 : decode cX9_partner 33 = .ok (.getfield 262, 3) := by decide +kernel
theorem dX9_partner_36 : decode cX9_partner 36 = .ok (.iload_n 1, 1) := by decide +kernel
theorem dX9_partner_37 : decode cX9_partner 37 = .ok (.iaload, 1) := by decide +kernel
theorem dX9_partner_38 : decode cX9_partner 38 = .ok (.ireturn, 1) := by decide +kernel
theorem dX9_duck_0 : decode cX9_duck 0 = .ok (.iload_n 1, 1) := by decide +kernel
theorem dX9_duck_1 : decode cX9_duck 1 = .ok (.ifCond .lt 25, 3) := by decide +kernel
theorem dX9_duck_4 : decode cX9_duck 4 = .ok (.iload_n 1, 1) := by decide +kernel
theorem dX9_duck_5 : decode cX9_duck 5 = .ok (.sipush 999, 3) := by decide +kernel
theorem dX9_duck_8 : decode cX9_duck 8 = .ok (.if_icmp .gt 18, 3) := by decide +kernel
theorem dX9_duck_11 : decode cX9_duck 11 = .ok (.iload_n 2, 1) := by decide +kernel
theorem dX9_duck_12 : decode cX9_duck 12 = .ok (.ifCond .lt 14, 3) := by decide +kernel
theorem dX9_duck_15 : decode cX9_duck 15 = .ok (.iload_n 2, 1) := by decide +kernel
theorem dX9_duck_16 : decode cX9_duck 16 = .ok (.aload_n 0, 1) := by decide +kernel
theorem dX9_duck_17 : decode cX9_duck 17 = .ok (.getfield 23, 3) := by decide +kernel
theorem dX9_duck_20 : decode cX9_duck 20 = .ok (.getfield 112, 3) := by decide +kernel
theorem dX9_duck_23 : decode cX9_duck 23 = .ok (.if_icmp .lt 6, 3) := by decide +kernel
theorem dX9_duck_26 : decode cX9_duck 26 = .ok (.ldc 97, 2) := by decide +kernel
theorem dX9_duck_28 : decode cX9_duck 28 = .ok (.ireturn, 1) := by decide +kernel
theorem dX9_duck_29 : decode cX9_duck 29 = .ok (.aload_n 0, 1) := by decide +kernel
theorem dX9_duck_30 : decode cX9_duck 30 = .ok (.getfield 86, 3) := by decide +kernel
theorem dX9_duck_33 : decode cX9_duck 33 = .ok (.getfield 107, 3) := by decide +kernel
theorem dX9_duck_36 : decode cX9_duck 36 = .ok (.bipush 6, 2) := by decide +kernel
theorem dX9_duck_38 : decode cX9_duck 38 = .ok (.if_icmp .lt 6, 3) := by decide +kernel
theorem dX9_duck_41 : decode cX9_duck 41 = .ok (.ldc 98, 2) := by decide +kernel
theorem dX9_duck_43 : decode cX9_duck 43 = .ok (.ireturn, 1) := by decide +kernel
theorem dX9_duck_44 : decode cX9_duck 44 = .ok (.aload_n 0, 1) := by decide +kernel
theorem dX9_duck_45 : decode cX9_duck 45 = .ok (.getfield 86, 3) := by decide +kernel
theorem dX9_duck_48 : decode cX9_duck 48 = .ok (.iload_n 1, 1) := by decide +kernel
theorem dX9_duck_49 : decode cX9_duck 49 = .ok (.iload_n 2, 1) := by decide +kernel
theorem dX9_duck_50 : decode cX9_duck 50 = .ok (.invokevirtual 265, 3) := by decide +kernel
theorem dX9_duck_53 : decode cX9_duck 53 = .ok (.aload_n 0, 1) := by decide +kernel
theorem dX9_duck_54 : decode cX9_duck 54 = .ok (.getfield 86, 3) := by decide +kernel
theorem dX9_duck_57 : decode cX9_duck 57 = .ok (.getfield 107, 3) := by decide +kernel
theorem dX9_duck_60 : decode cX9_duck 60 = .ok (.ireturn, 1) := by decide +kernel
theorem dX9_lit_0 : decode cX9_lit 0 = .ok (.iload_n 1, 1) := by decide +kernel
theorem dX9_lit_1 : decode cX9_lit 1 = .ok (.iconst (-1), 1) := by decide +kernel
theorem dX9_lit_2 : decode cX9_lit 2 = .ok (.if_icmp .ne 19, 3) := by decide +kernel
theorem dX9_lit_5 : decode cX9_lit 5 = .ok (.aload_n 0, 1) := by decide +kernel
theorem dX9_lit_6 : decode cX9_lit 6 = .ok (.getfield 86, 3) := by decide +kernel
theorem dX9_lit_9 : decode cX9_lit 9 = .ok (.aload_n 0, 1) := by decide +kernel
theorem dX9_lit_10 : decode cX9_lit 10 = .ok (.getfield 23, 3) := by decide +kernel
theorem dX9_lit_13 : decode cX9_lit 13 = .ok (.aload_n 0, 1) := by decide +kernel
theorem dX9_lit_14 : decode cX9_lit 14 = .ok (.getfield 43, 3) := by decide +kernel
theorem dX9_lit_17 : decode cX9_lit 17 = .ok (.invokevirtual 269, 3) := by decide +kernel
theorem dX9_lit_20 : decode cX9_lit 20 = .ok (.ireturn, 1) := by decide +kernel
theorem dX9_lit_21 : decode cX9_lit 21 = .ok (.iload_n 1, 1) := by decide +kernel
theorem dX9_lit_22 : decode cX9_lit 22 = .ok (.ifCond .lt 14, 3) := by decide +kernel
theorem dX9_lit_25 : decode cX9_lit 25 = .ok (.iload_n 1, 1) := by decide +kernel
theorem dX9_lit_26 : decode cX9_lit 26 = .ok (.aload_n 0, 1) := by decide +kernel
theorem dX9_lit_27 : decode cX9_lit 27 = .ok (.getfield 86, 3) := by decide +kernel
theorem dX9_lit_30 : decode cX9_lit 30 = .ok (.getfield 107, 3) := by decide +kernel
theorem dX9_lit_33 : decode cX9_lit 33 = .ok (.if_icmp .lt 5, 3) := by decide +kernel
theorem dX9_lit_36 : decode cX9_lit 36 = .ok (.iconst (-1), 1) := by decide +kernel
theorem dX9_lit_37 : decode cX9_lit 37 = .ok (.ireturn, 1) := by decide +kernel
theorem dX9_lit_38 : decode cX9_lit 38 = .ok (.aload_n 0, 1) := by decide +kernel
theorem dX9_lit_39 : decode cX9_lit 39 = .ok (.getfield 43, 3) := by decide +kernel
theorem dX9_lit_42 : decode cX9_lit 42 = .ok (.aload_n 0, 1) := by decide +kernel
theorem dX9_lit_43 : decode cX9_lit 43 = .ok (.getfield 23, 3) := by decide +kernel
theorem dX9_lit_46 : decode cX9_lit 46 = .ok (.aload_n 0, 1) := by decide +kernel
theorem dX9_lit_47 : decode cX9_lit 47 = .ok (.getfield 86, 3) := by decide +kernel
theorem dX9_lit_50 : decode cX9_lit 50 = .ok (.getfield 273, 3) := by decide +kernel
theorem dX9_lit_53 : decode cX9_lit 53 = .ok (.iload_n 1, 1) := by decide +kernel
theorem dX9_lit_54 : decode cX9_lit 54 = .ok (.iaload, 1) := by decide +kernel
theorem dX9_lit_55 : decode cX9_lit 55 = .ok (.invokevirtual 274, 3) := by decide +kernel
theorem dX9_lit_58 : decode cX9_lit 58 = .ok (.ireturn, 1) := by decide +kernel
theorem dX9_write_0 : decode cX9_write 0 = .ok (.aload_n 0, 1) := by decide +kernel
theorem dX9_write_1 : decode cX9_write 1 = .ok (.getfield 23, 3) := by decide +kernel
theorem dX9_write_4 : decode cX9_write 4 = .ok (.iload_n 1, 1) := by decide +kernel
theorem dX9_write_5 : decode cX9_write 5 = .ok (.iload_n 2, 1) := by decide +kernel
theorem dX9_write_6 : decode cX9_write 6 = .ok (.invokevirtual 174, 3) := by decide +kernel
theorem dX9_write_9 : decode cX9_write 9 = .ok (.ifCond .ne 6, 3) := by decide +kernel
theorem dX9_write_12 : decode cX9_write 12 = .ok (.ldc 148, 2) := by decide +kernel
theorem dX9_write_14 : decode cX9_write 14 = .ok (.ireturn, 1) := by decide +kernel
theorem dX9_write_15 : decode cX9_write 15 = .ok (.aload_n 0, 1) := by decide +kernel
theorem dX9_write_16 : decode cX9_write 16 = .ok (.getfield 93, 3) := by decide +kernel
theorem dX9_write_19 : decode cX9_write 19 = .ok (.getfield 110, 3) := by decide +kernel
theorem dX9_write_22 : decode cX9_write 22 = .ok (.bipush 15, 2) := by decide +kernel
theorem dX9_write_24 : decode cX9_write 24 = .ok (.if_icmp .lt 6, 3) := by decide +kernel
theorem dX9_write_27 : decode cX9_write 27 = .ok (.ldc 98, 2) := by decide +kernel
theorem dX9_write_29 : decode cX9_write 29 = .ok (.ireturn, 1) := by decide +kernel
theorem dX9_write_30 : decode cX9_write 30 = .ok (.aload_n 0, 1) := by decide +kernel
theorem dX9_write_31 : decode cX9_write 31 = .ok (.getfield 93, 3) := by decide +kernel
theorem dX9_write_34 : decode cX9_write 34 = .ok (.iload_n 1, 1) := by decide +kernel
theorem dX9_write_35 : decode cX9_write 35 = .ok (.iload_n 2, 1) := by decide +kernel
theorem dX9_write_36 : decode cX9_write 36 = .ok (.iload_n 3, 1) := by decide +kernel
theorem dX9_write_37 : decode cX9_write 37 = .ok (.invokevirtual 277, 3) := by decide +kernel
theorem dX9_write_40 : decode cX9_write 40 = .ok (.aload_n 0, 1) := by decide +kernel
theorem dX9_write_41 : decode cX9_write 41 = .ok (.getfield 93, 3) := by decide +kernel
theorem dX9_write_44 : decode cX9_write 44 = .ok (.getfield 110, 3) := by decide +kernel
theorem dX9_write_47 : decode cX9_write 47 = .ok (.ireturn, 1) := by decide +kernel
theorem dX9_tear_0 : decode cX9_tear 0 = .ok (.aload_n 0, 1) := by decide +kernel
theorem dX9_tear_1 : decode cX9_tear 1 = .ok (.getfield 86, 3) := by decide +kernel
theorem dX9_tear_4 : decode cX9_tear 4 = .ok (.getfield 107, 3) := by decide +kernel
theorem dX9_tear_7 : decode cX9_tear 7 = .ok (.aload_n 0, 1) := by decide +kernel
theorem dX9_tear_8 : decode cX9_tear 8 = .ok (.getfield 93, 3) := by decide +kernel
theorem dX9_tear_11 : decode cX9_tear 11 = .ok (.getfield 110, 3) := by decide +kernel
theorem dX9_tear_14 : decode cX9_tear 14 = .ok (.iadd, 1) := by decide +kernel
theorem dX9_tear_15 : decode cX9_tear 15 = .ok (.istore_n 1, 1) := by decide +kernel
theorem dX9_tear_16 : decode cX9_tear 16 = .ok (.aload_n 0, 1) := by decide +kernel
theorem dX9_tear_17 : decode cX9_tear 17 = .ok (.getfield 86, 3) := by decide +kernel
theorem dX9_tear_20 : decode cX9_tear 20 = .ok (.iconst 0, 1) := by decide +kernel
theorem dX9_tear_21 : decode cX9_tear 21 = .ok (.putfield 107, 3) := by decide +kernel
theorem dX9_tear_24 : decode cX9_tear 24 = .ok (.aload_n 0, 1) := by decide +kernel
theorem dX9_tear_25 : decode cX9_tear 25 = .ok (.getfield 93, 3) := by decide +kernel
theorem dX9_tear_28 : decode cX9_tear 28 = .ok (.iconst 0, 1) := by decide +kernel
theorem dX9_tear_29 : decode cX9_tear 29 = .ok (.putfield 110, 3) := by decide +kernel
theorem dX9_tear_32 : decode cX9_tear 32 = .ok (.iload_n 1, 1) := by decide +kernel
theorem dX9_tear_33 : decode cX9_tear 33 = .ok (.ireturn, 1) := by decide +kernel
theorem dX9_judge_0 : decode cX9_judge 0 = .ok (.aload_n 0, 1) := by decide +kernel
theorem dX9_judge_1 : decode cX9_judge 1 = .ok (.getfield 93, 3) := by decide +kernel
theorem dX9_judge_4 : decode cX9_judge 4 = .ok (.aload_n 0, 1) := by decide +kernel
theorem dX9_judge_5 : decode cX9_judge 5 = .ok (.getfield 43, 3) := by decide +kernel
theorem dX9_judge_8 : decode cX9_judge 8 = .ok (.invokevirtual 280, 3) := by decide +kernel
theorem dX9_judge_11 : decode cX9_judge 11 = .ok (.ireturn, 1) := by decide +kernel
theorem dX9_seed_0 : decode cX9_seed 0 = .ok (.iload_n 1, 1) := by decide +kernel
theorem dX9_seed_1 : decode cX9_seed 1 = .ok (.ifCond .ge 6, 3) := by decide +kernel
theorem dX9_seed_4 : decode cX9_seed 4 = .ok (.ldc 97, 2) := by decide +kernel
theorem dX9_seed_6 : decode cX9_seed 6 = .ok (.ireturn, 1) := by decide +kernel
theorem dX9_seed_7 : decode cX9_seed 7 = .ok (.aload_n 0, 1) := by decide +kernel
theorem dX9_seed_8 : decode cX9_seed 8 = .ok (.getfield 30, 3) := by decide +kernel
theorem dX9_seed_11 : decode cX9_seed 11 = .ok (.istore_n 2, 1) := by decide +kernel
theorem dX9_seed_12 : decode cX9_seed 12 = .ok (.aload_n 0, 1) := by decide +kernel
theorem dX9_seed_13 : decode cX9_seed 13 = .ok (.iload_n 1, 1) := by decide +kernel
theorem dX9_seed_14 : decode cX9_seed 14 = .ok (.putfield 30, 3) := by decide +kernel
theorem dX9_seed_17 : decode cX9_seed 17 = .ok (.iload_n 2, 1) := by decide +kernel
theorem dX9_seed_18 : decode cX9_seed 18 = .ok (.ireturn, 1) := by decide +kernel
theorem dX9_keep_0 : decode cX9_keep 0 = .ok (.iload_n 1, 1) := by decide +kernel
theorem dX9_keep_1 : decode cX9_keep 1 = .ok (.ifCond .lt 8, 3) := by decide +kernel
theorem dX9_keep_4 : decode cX9_keep 4 = .ok (.iload_n 1, 1) := by decide +kernel
theorem dX9_keep_5 : decode cX9_keep 5 = .ok (.iconst 2, 1) := by decide +kernel
theorem dX9_keep_6 : decode cX9_keep 6 = .ok (.if_icmp .lt 6, 3) := by decide +kernel
theorem dX9_keep_9 : decode cX9_keep 9 = .ok (.ldc 148, 2) := by decide +kernel
theorem dX9_keep_11 : decode cX9_keep 11 = .ok (.ireturn, 1) := by decide +kernel
theorem dX9_keep_12 : decode cX9_keep 12 = .ok (.aload_n 0, 1) := by decide +kernel
theorem dX9_keep_13 : decode cX9_keep 13 = .ok (.getfield 58, 3) := by decide +kernel
theorem dX9_keep_16 : decode cX9_keep 16 = .ok (.iload_n 1, 1) := by decide +kernel
theorem dX9_keep_17 : decode cX9_keep 17 = .ok (.aaload, 1) := by decide +kernel
theorem dX9_keep_18 : decode cX9_keep 18 = .ok (.aload_n 0, 1) := by decide +kernel
theorem dX9_keep_19 : decode cX9_keep 19 = .ok (.getfield 43, 3) := by decide +kernel
theorem dX9_keep_22 : decode cX9_keep 22 = .ok (.invokevirtual 284, 3) := by decide +kernel
theorem dX9_keep_25 : decode cX9_keep 25 = .ok (.aload_n 0, 1) := by decide +kernel
theorem dX9_keep_26 : decode cX9_keep 26 = .ok (.getfield 66, 3) := by decide +kernel
theorem dX9_keep_29 : decode cX9_keep 29 = .ok (.iload_n 1, 1) := by decide +kernel
theorem dX9_keep_30 : decode cX9_keep 30 = .ok (.aload_n 0, 1) := by decide +kernel
theorem dX9_keep_31 : decode cX9_keep 31 = .ok (.getfield 30, 3) := by decide +kernel
theorem dX9_keep_34 : decode cX9_keep 34 = .ok (.iastore, 1) := by decide +kernel
theorem dX9_keep_35 : decode cX9_keep 35 = .ok (.aload_n 0, 1) := by decide +kernel
theorem dX9_keep_36 : decode cX9_keep 36 = .ok (.getfield 62, 3) := by decide +kernel
theorem dX9_keep_39 : decode cX9_keep 39 = .ok (.iload_n 1, 1) := by decide +kernel
theorem dX9_keep_40 : decode cX9_keep 40 = .ok (.iconst 1, 1) := by decide +kernel
theorem dX9_keep_41 : decode cX9_keep 41 = .ok (.bastore, 1) := by decide +kernel
theorem dX9_keep_42 : decode cX9_keep 42 = .ok (.aload_n 0, 1) := by decide +kernel
theorem dX9_keep_43 : decode cX9_keep 43 = .ok (.getfield 54, 3) := by decide +kernel
theorem dX9_keep_46 : decode cX9_keep 46 = .ok (.invokevirtual 104, 3) := by decide +kernel
theorem dX9_keep_49 : decode cX9_keep 49 = .ok (.iconst 1, 1) := by decide +kernel
theorem dX9_keep_50 : decode cX9_keep 50 = .ok (.ireturn, 1) := by decide +kernel
theorem dX9_goBack_0 : decode cX9_goBack 0 = .ok (.iload_n 1, 1) := by decide +kernel
theorem dX9_goBack_1 : decode cX9_goBack 1 = .ok (.ifCond .lt 8, 3) := by decide +kernel
theorem dX9_goBack_4 : decode cX9_goBack 4 = .ok (.iload_n 1, 1) := by decide +kernel
theorem dX9_goBack_5 : decode cX9_goBack 5 = .ok (.iconst 2, 1) := by decide +kernel
theorem dX9_goBack_6 : decode cX9_goBack 6 = .ok (.if_icmp .lt 6, 3) := by decide +kernel
theorem dX9_goBack_9 : decode cX9_goBack 9 = .ok (.ldc 148, 2) := by decide +kernel
theorem dX9_goBack_11 : decode cX9_goBack 11 = .ok (.ireturn, 1) := by decide +kernel
theorem dX9_goBack_12 : decode cX9_goBack 12 = .ok (.aload_n 0, 1) := by decide +kernel
theorem dX9_goBack_13 : decode cX9_goBack 13 = .ok (.getfield 62, 3) := by decide +kernel
theorem dX9_goBack_16 : decode cX9_goBack 16 = .ok (.iload_n 1, 1) := by decide +kernel
theorem dX9_goBack_17 : decode cX9_goBack 17 = .ok (.baload, 1) := by decide +kernel
theorem dX9_goBack_18 : decode cX9_goBack 18 = .ok (.ifCond .ne 6, 3) := by decide +kernel
theorem dX9_goBack_21 : decode cX9_goBack 21 = .ok (.ldc 188, 2) := by decide +kernel
theorem dX9_goBack_23 : decode cX9_goBack 23 = .ok (.ireturn, 1) := by decide +kernel
theorem dX9_goBack_24 : decode cX9_goBack 24 = .ok (.aload_n 0, 1) := by decide +kernel
theorem dX9_goBack_25 : decode cX9_goBack 25 = .ok (.getfield 43, 3) := by decide +kernel
theorem dX9_goBack_28 : decode cX9_goBack 28 = .ok (.aload_n 0, 1) := by decide +kernel
theorem dX9_goBack_29 : decode cX9_goBack 29 = .ok (.getfield 58, 3) := by decide +kernel
theorem dX9_goBack_32 : decode cX9_goBack 32 = .ok (.iload_n 1, 1) := by decide +kernel
theorem dX9_goBack_33 : decode cX9_goBack 33 = .ok (.aaload, 1) := by decide +kernel
theorem dX9_goBack_34 : decode cX9_goBack 34 = .ok (.invokevirtual 284, 3) := by decide +kernel
theorem dX9_goBack_37 : decode cX9_goBack 37 = .ok (.aload_n 0, 1) := by decide +kernel
theorem dX9_goBack_38 : decode cX9_goBack 38 = .ok (.aload_n 0, 1) := by decide +kernel
theorem dX9_goBack_39 : decode cX9_goBack 39 = .ok (.getfield 66, 3) := by decide +kernel
theorem dX9_goBack_42 : decode cX9_goBack 42 = .ok (.iload_n 1, 1) := by decide +kernel
theorem dX9_goBack_43 : decode cX9_goBack 43 = .ok (.iaload, 1) := by decide +kernel
theorem dX9_goBack_44 : decode cX9_goBack 44 = .ok (.putfield 30, 3) := by decide +kernel
theorem dX9_goBack_47 : decode cX9_goBack 47 = .ok (.aload_n 0, 1) := by decide +kernel
theorem dX9_goBack_48 : decode cX9_goBack 48 = .ok (.getfield 54, 3) := by decide +kernel
theorem dX9_goBack_51 : decode cX9_goBack 51 = .ok (.invokevirtual 104, 3) := by decide +kernel
theorem dX9_goBack_54 : decode cX9_goBack 54 = .ok (.iconst 1, 1) := by decide +kernel
theorem dX9_goBack_55 : decode cX9_goBack 55 = .ok (.ireturn, 1) := by decide +kernel
theorem dX9_refusalOfMinutes_0 : decode cX9_refusalOfMinutes 0 = .ok (.iload_n 1, 1) := by decide +kernel
theorem dX9_refusalOfMinutes_1 : decode cX9_refusalOfMinutes 1 = .ok (.iconst 1, 1) := by decide +kernel
theorem dX9_refusalOfMinutes_2 : decode cX9_refusalOfMinutes 2 = .ok (.if_icmp .lt 9, 3) := by decide +kernel
theorem dX9_refusalOfMinutes_5 : decode cX9_refusalOfMinutes 5 = .ok (.iload_n 1, 1) := by decide +kernel
theorem dX9_refusalOfMinutes_6 : decode cX9_refusalOfMinutes 6 = .ok (.bipush 99, 2) := by decide +kernel
theorem dX9_refusalOfMinutes_8 : decode cX9_refusalOfMinutes 8 = .ok (.if_icmp .le 6, 3) := by decide +kernel
theorem dX9_refusalOfMinutes_11 : decode cX9_refusalOfMinutes 11 = .ok (.ldc 97, 2) := by decide +kernel
theorem dX9_refusalOfMinutes_13 : decode cX9_refusalOfMinutes 13 = .ok (.ireturn, 1) := by decide +kernel
theorem dX9_refusalOfMinutes_14 : decode cX9_refusalOfMinutes 14 = .ok (.aload_n 0, 1) := by decide +kernel
theorem dX9_refusalOfMinutes_15 : decode cX9_refusalOfMinutes 15 = .ok (.getfield 23, 3) := by decide +kernel
theorem dX9_refusalOfMinutes_18 : decode cX9_refusalOfMinutes 18 = .ok (.getfield 112, 3) := by decide +kernel
theorem dX9_refusalOfMinutes_21 : decode cX9_refusalOfMinutes 21 = .ok (.ifCond .ne 6, 3) := by decide +kernel
theorem dX9_refusalOfMinutes_24 : decode cX9_refusalOfMinutes 24 = .ok (.ldc 188, 2) := by decide +kernel
theorem dX9_refusalOfMinutes_26 : decode cX9_refusalOfMinutes 26 = .ok (.ireturn, 1) := by decide +kernel
theorem dX9_refusalOfMinutes_27 : decode cX9_refusalOfMinutes 27 = .ok (.aload_n 0, 1) := by decide +kernel
theorem dX9_refusalOfMinutes_28 : decode cX9_refusalOfMinutes 28 = .ok (.getfield 43, 3) := by decide +kernel
theorem dX9_refusalOfMinutes_31 : decode cX9_refusalOfMinutes 31 = .ok (.getfield 127, 3) := by decide +kernel
theorem dX9_refusalOfMinutes_34 : decode cX9_refusalOfMinutes 34 = .ok (.ldc_w 287, 3) := by decide +kernel
theorem dX9_refusalOfMinutes_37 : decode cX9_refusalOfMinutes 37 = .ok (.if_icmp .le 8, 3) := by decide +kernel
theorem dX9_refusalOfMinutes_40 : decode cX9_refusalOfMinutes 40 = .ok (.ldc 98, 2) := by decide +kernel
theorem dX9_refusalOfMinutes_42 : decode cX9_refusalOfMinutes 42 = .ok (.goto 4, 3) := by decide +kernel
theorem dX9_refusalOfMinutes_45 : decode cX9_refusalOfMinutes 45 = .ok (.iconst 0, 1) := by decide +kernel
theorem dX9_refusalOfMinutes_46 : decode cX9_refusalOfMinutes 46 = .ok (.ireturn, 1) := by decide +kernel
theorem dX9_changeWeather_0 : decode cX9_changeWeather 0 = .ok (.aload_n 0, 1) := by decide +kernel
theorem dX9_changeWeather_1 : decode cX9_changeWeather 1 = .ok (.iconst 3, 1) := by decide +kernel
theorem dX9_changeWeather_2 : decode cX9_changeWeather 2 = .ok (.invokevirtual 288, 3) := by decide +kernel
theorem dX9_changeWeather_5 : decode cX9_changeWeather 5 = .ok (.istore_n 1, 1) := by decide +kernel
theorem dX9_changeWeather_6 : decode cX9_changeWeather 6 = .ok (.iload_n 1, 1) := by decide +kernel
theorem dX9_changeWeather_7 : decode cX9_changeWeather 7 = .ok (.ifCond .ne 19, 3) := by decide +kernel
theorem dX9_changeWeather_10 : decode cX9_changeWeather 10 = .ok (.aload_n 0, 1) := by decide +kernel
theorem dX9_changeWeather_11 : decode cX9_changeWeather 11 = .ok (.getfield 43, 3) := by decide +kernel
theorem dX9_changeWeather_14 : decode cX9_changeWeather 14 = .ok (.aload_n 0, 1) := by decide +kernel
theorem dX9_changeWeather_15 : decode cX9_changeWeather 15 = .ok (.bipush 21, 2) := by decide +kernel
theorem dX9_changeWeather_17 : decode cX9_changeWeather 17 = .ok (.invokevirtual 288, 3) := by decide +kernel
theorem dX9_changeWeather_20 : decode cX9_changeWeather 20 = .ok (.putfield 115, 3) := by decide +kernel
theorem dX9_changeWeather_23 : decode cX9_changeWeather 23 = .ok (.goto 23, 3) := by decide +kernel
theorem dX9_changeWeather_26 : decode cX9_changeWeather 26 = .ok (.iload_n 1, 1) := by decide +kernel
theorem dX9_changeWeather_27 : decode cX9_changeWeather 27 = .ok (.iconst 1, 1) := by decide +kernel
theorem dX9_changeWeather_28 : decode cX9_changeWeather 28 = .ok (.if_icmp .ne 18, 3) := by decide +kernel
theorem dX9_changeWeather_31 : decode cX9_changeWeather 31 = .ok (.aload_n 0, 1) := by decide +kernel
theorem dX9_changeWeather_32 : decode cX9_changeWeather 32 = .ok (.getfield 43, 3) := by decide +kernel
theorem dX9_changeWeather_35 : decode cX9_changeWeather 35 = .ok (.aload_n 0, 1) := by decide +kernel
theorem dX9_changeWeather_36 : decode cX9_changeWeather 36 = .ok (.bipush 11, 2) := by decide +kernel
theorem dX9_changeWeather_38 : decode cX9_changeWeather 38 = .ok (.invokevirtual 288, 3) := by decide +kernel
theorem dX9_changeWeather_41 : decode cX9_changeWeather 41 = .ok (.iconst 5, 1) := by decide +kernel
theorem dX9_changeWeather_42 : decode cX9_changeWeather 42 = .ok (.isub, 1) := by decide +kernel
theorem dX9_changeWeather_43 : decode cX9_changeWeather 43 = .ok (.putfield 118, 3) := by decide +kernel
theorem dX9_changeWeather_46 : decode cX9_changeWeather 46 = .ok (.return_, 1) := by decide +kernel
theorem dX9_draw_0 : decode cX9_draw 0 = .ok (.aload_n 0, 1) := by decide +kernel
theorem dX9_draw_1 : decode cX9_draw 1 = .ok (.aload_n 0, 1) := by decide +kernel
theorem dX9_draw_2 : decode cX9_draw 2 = .ok (.getfield 30, 3) := by decide +kernel
theorem dX9_draw_5 : decode cX9_draw 5 = .ok (.i2l, 1) := by decide +kernel
theorem dX9_draw_6 : decode cX9_draw 6 = .ok (.ldc2_w 291, 3) := by decide +kernel
theorem dX9_draw_9 : decode cX9_draw 9 = .ok (.lmul, 1) := by decide +kernel
theorem dX9_draw_10 : decode cX9_draw 10 = .ok (.ldc2_w 293, 3) := by decide +kernel
theorem dX9_draw_13 : decode cX9_draw 13 = .ok (.ladd, 1) := by decide +kernel
theorem dX9_draw_14 : decode cX9_draw 14 = .ok (.ldc2_w 295, 3) := by decide +kernel
theorem dX9_draw_17 : decode cX9_draw 17 = .ok (.land, 1) := by decide +kernel
theorem dX9_draw_18 : decode cX9_draw 18 = .ok (.l2i, 1) := by decide +kernel
theorem dX9_draw_19 : decode cX9_draw 19 = .ok (.putfield 30, 3) := by decide +kernel
theorem dX9_draw_22 : decode cX9_draw 22 = .ok (.iload_n 1, 1) := by decide +kernel
theorem dX9_draw_23 : decode cX9_draw 23 = .ok (.iconst 1, 1) := by decide +kernel
theorem dX9_draw_24 : decode cX9_draw 24 = .ok (.if_icmp .ge 7, 3) := by decide +kernel
theorem dX9_draw_27 : decode cX9_draw 27 = .ok (.iconst 0, 1) := by decide +kernel
theorem dX9_draw_28 : decode cX9_draw 28 = .ok (.goto 13, 3) := by decide +kernel
theorem dX9_draw_31 : decode cX9_draw 31 = .ok (.aload_n 0, 1) := by decide +kernel
theorem dX9_draw_32 : decode cX9_draw 32 = .ok (.getfield 30, 3) := by decide +kernel
theorem dX9_draw_35 : decode cX9_draw 35 = .ok (.ldc_w 297, 3) := by decide +kernel
theorem dX9_draw_38 : decode cX9_draw 38 = .ok (.idiv, 1) := by decide +kernel
theorem dX9_draw_39 : decode cX9_draw 39 = .ok (.iload_n 1, 1) := by decide +kernel
theorem dX9_draw_40 : decode cX9_draw 40 = .ok (.irem, 1) := by decide +kernel
theorem dX9_draw_41 : decode cX9_draw 41 = .ok (.ireturn, 1) := by decide +kernel
theorem dX9_cutOdds_0 : decode cX9_cutOdds 0 = .ok (.iload_n 0, 1) := by decide +kernel
theorem dX9_cutOdds_1 : decode cX9_cutOdds 1 = .ok (.i2l, 1) := by decide +kernel
theorem dX9_cutOdds_2 : decode cX9_cutOdds 2 = .ok (.lstore_n 3, 1) := by decide +kernel
theorem dX9_cutOdds_3 : decode cX9_cutOdds 3 = .ok (.iconst 0, 1) := by decide +kernel
theorem dX9_cutOdds_4 : decode cX9_cutOdds 4 = .ok (.istore 5, 2) := by decide +kernel
theorem dX9_cutOdds_6 : decode cX9_cutOdds 6 = .ok (.iload 5, 2) := by decide +kernel
theorem dX9_cutOdds_8 : decode cX9_cutOdds 8 = .ok (.iload_n 2, 1) := by decide +kernel
theorem dX9_cutOdds_9 : decode cX9_cutOdds 9 = .ok (.if_icmp .ge 18, 3) := by decide +kernel
theorem dX9_cutOdds_12 : decode cX9_cutOdds 12 = .ok (.lload_n 3, 1) := by decide +kernel
theorem dX9_cutOdds_13 : decode cX9_cutOdds 13 = .ok (.iload_n 1, 1) := by decide +kernel
theorem dX9_cutOdds_14 : decode cX9_cutOdds 14 = .ok (.i2l, 1) := by decide +kernel
theorem dX9_cutOdds_15 : decode cX9_cutOdds 15 = .ok (.lmul, 1) := by decide +kernel
theorem dX9_cutOdds_16 : decode cX9_cutOdds 16 = .ok (.ldc2_w 298, 3) := by decide +kernel
theorem dX9_cutOdds_19 : decode cX9_cutOdds 19 = .ok (.ldiv, 1) := by decide +kernel
theorem dX9_cutOdds_20 : decode cX9_cutOdds 20 = .ok (.lstore_n 3, 1) := by decide +kernel
theorem dX9_cutOdds_21 : decode cX9_cutOdds 21 = .ok (.iinc 5 1, 3) := by decide +kernel
theorem dX9_cutOdds_24 : decode cX9_cutOdds 24 = .ok (.goto (-18), 3) := by decide +kernel
theorem dX9_cutOdds_27 : decode cX9_cutOdds 27 = .ok (.lload_n 3, 1) := by decide +kernel
theorem dX9_cutOdds_28 : decode cX9_cutOdds 28 = .ok (.l2i, 1) := by decide +kernel
theorem dX9_cutOdds_29 : decode cX9_cutOdds 29 = .ok (.ireturn, 1) := by decide +kernel
theorem dX10_init_0 : decode cX10_init 0 = .ok (.aload_n 0, 1) := by decide +kernel
theorem dX10_init_1 : decode cX10_init 1 = .ok (.invokespecial 1, 3) := by decide +kernel
theorem dX10_init_4 : decode cX10_init 4 = .ok (.aload_n 0, 1) := by decide +kernel
theorem dX10_init_5 : decode cX10_init 5 = .ok (.bipush 8, 2) := by decide +kernel
theorem dX10_init_7 : decode cX10_init 7 = .ok (.newarray .int, 2) := by decide +kernel
theorem dX10_init_9 : decode cX10_init 9 = .ok (.putfield 7, 3) := by decide +kernel
theorem dX10_init_12 : decode cX10_init 12 = .ok (.aload_n 0, 1) := by decide +kernel
theorem dX10_init_13 : decode cX10_init 13 = .ok (.bipush 8, 2) := by decide +kernel
theorem dX10_init_15 : decode cX10_init 15 = .ok (.newarray .int, 2) := by decide +kernel
theorem dX10_init_17 : decode cX10_init 17 = .ok (.putfield 13, 3) := by decide +kernel
theorem dX10_init_20 : decode cX10_init 20 = .ok (.aload_n 0, 1) := by decide +kernel
theorem dX10_init_21 : decode cX10_init 21 = .ok (.bipush 8, 2) := by decide +kernel
theorem dX10_init_23 : decode cX10_init 23 = .ok (.newarray .int, 2) := by decide +kernel
theorem dX10_init_25 : decode cX10_init 25 = .ok (.putfield 16, 3) := by decide +kernel
theorem dX10_init_28 : decode cX10_init 28 = .ok (.aload_n 0, 1) := by decide +kernel
theorem dX10_init_29 : decode cX10_init 29 = .ok (.bipush 40, 2) := by decide +kernel
theorem dX10_init_31 : decode cX10_init 31 = .ok (.newarray .int, 2) := by decide +kernel
theorem dX10_init_33 : decode cX10_init 33 = .ok (.putfield 19, 3) := by decide +kernel
theorem dX10_init_36 : decode cX10_init 36 = .ok (.aload_n 0, 1) := by decide +kernel
theorem dX10_init_37 : decode cX10_init 37 = .ok (.iconst 2, 1) := by decide +kernel
theorem dX10_init_38 : decode cX10_init 38 = .ok (.putfield 22, 3) := by decide +kernel
theorem dX10_init_41 : decode cX10_init 41 = .ok (.aload_n 0, 1) := by decide +kernel
theorem dX10_init_42 : decode cX10_init 42 = .ok (.bipush 10, 2) := by decide +kernel
theorem dX10_init_44 : decode cX10_init 44 = .ok (.putfield 26, 3) := by decide +kernel
theorem dX10_init_47 : decode cX10_init 47 = .ok (.aload_n 0, 1) := by decide +kernel
theorem dX10_init_48 : decode cX10_init 48 = .ok (.bipush 43, 2) := by decide +kernel
theorem dX10_init_50 : decode cX10_init 50 = .ok (.newarray .int, 2) := by decide +kernel
theorem dX10_init_52 : decode cX10_init 52 = .ok (.putfield 29, 3) := by decide +kernel
theorem dX10_init_55 : decode cX10_init 55 = .ok (.aload_n 0, 1) := by decide +kernel
theorem dX10_init_56 : decode cX10_init 56 = .ok (.sipush 230, 3) := by decide +kernel
theorem dX10_init_59 : decode cX10_init 59 = .ok (.newarray .int, 2) := by decide +kernel
theorem dX10_init_61 : decode cX10_init 61 = .ok (.putfield 32, 3) := by decide +kernel
theorem dX10_init_64 : decode cX10_init 64 = .ok (.aload_n 0, 1) := by decide +kernel
theorem dX10_init_65 : decode cX10_init 65 = .ok (.iconst (-1), 1) := by decide +kernel
theorem dX10_init_66 : decode cX10_init 66 = .ok (.putfield 35, 3) := by decide +kernel
theorem dX10_init_69 : decode cX10_init 69 = .ok (.aload_n 0, 1) := by decide +kernel
theorem dX10_init_70 : decode cX10_init 70 = .ok (.iconst 3, 1) := by decide +kernel
theorem dX10_init_71 : decode cX10_init 71 = .ok (.newarray .int, 2) := by decide +kernel
theorem dX10_init_73 : decode cX10_init 73 = .ok (.putfield 38, 3) := by decide +kernel
theorem dX10_init_76 : decode cX10_init 76 = .ok (.aload_n 0, 1) := by decide +kernel
theorem dX10_init_77 : decode cX10_init 77 = .ok (.bipush 8, 2) := by decide +kernel
theorem dX10_init_79 : decode cX10_init 79 = .ok (.newarray .int, 2) := by decide +kernel
theorem dX10_init_81 : decode cX10_init 81 = .ok (.putfield 41, 3) := by decide +kernel
theorem dX10_init_84 : decode cX10_init 84 = .ok (.aload_n 0, 1) := by decide +kernel
theorem dX10_init_85 : decode cX10_init 85 = .ok (.bipush 8, 2) := by decide +kernel
theorem dX10_init_87 : decode cX10_init 87 = .ok (.newarray .int, 2) := by decide +kernel
theorem dX10_init_89 : decode cX10_init 89 = .ok (.putfield 44, 3) := by decide +kernel
theorem dX10_init_92 : decode cX10_init 92 = .ok (.aload_n 0, 1) := by decide +kernel
theorem dX10_init_93 : decode cX10_init 93 = .ok (.bipush 8, 2) := by decide +kernel
theorem dX10_init_95 : decode cX10_init 95 = .ok (.newarray .int, 2) := by decide +kernel
theorem dX10_init_97 : decode cX10_init 97 = .ok (.putfield 47, 3) := by decide +kernel
theorem dX10_init_100 : decode cX10_init 100 = .ok (.aload_n 0, 1) := by decide +kernel
theorem dX10_init_101 : decode cX10_init 101 = .ok (.bipush 8, 2) := by decide +kernel
theorem dX10_init_103 : decode cX10_init 103 = .ok (.newarray .int, 2) := by decide +kernel
theorem dX10_init_105 : decode cX10_init 105 = .ok (.putfield 50, 3) := by decide +kernel
theorem dX10_init_108 : decode cX10_init 108 = .ok (.aload_n 0, 1) := by decide +kernel
theorem dX10_init_109 : decode cX10_init 109 = .ok (.bipush 40, 2) := by decide +kernel
theorem dX10_init_111 : decode cX10_init 111 = .ok (.newarray .int, 2) := by decide +kernel
theorem dX10_init_113 : decode cX10_init 113 = .ok (.putfield 53, 3) := by decide +kernel
theorem dX10_init_116 : decode cX10_init 116 = .ok (.aload_n 0, 1) := by decide +kernel
theorem dX10_init_117 : decode cX10_init 117 = .ok (.iconst 1, 1) := by decide +kernel
theorem dX10_init_118 : decode cX10_init 118 = .ok (.newarray .int, 2) := by decide +kernel
theorem dX10_init_120 : decode cX10_init 120 = .ok (.putfield 56, 3) := by decide +kernel
theorem dX10_init_123 : decode cX10_init 123 = .ok (.aload_n 0, 1) := by decide +kernel
theorem dX10_init_124 : decode cX10_init 124 = .ok (.iconst 1, 1) := by decide +kernel
theorem dX10_init_125 : decode cX10_init 125 = .ok (.newarray .int, 2) := by decide +kernel
theorem dX10_init_127 : decode cX10_init 127 = .ok (.putfield 59, 3) := by decide +kernel
theorem dX10_init_130 : decode cX10_init 130 = .ok (.aload_n 0, 1) := by decide +kernel
theorem dX10_init_131 : decode cX10_init 131 = .ok (.sipush 860, 3) := by decide +kernel
theorem dX10_init_134 : decode cX10_init 134 = .ok (.newarray .int, 2) := by decide +kernel
theorem dX10_init_136 : decode cX10_init 136 = .ok (.putfield 62, 3) := by decide +kernel
theorem dX10_init_139 : decode cX10_init 139 = .ok (.aload_n 0, 1) := by decide +kernel
theorem dX10_init_140 : decode cX10_init 140 = .ok (.bipush 43, 2) := by decide +kernel
theorem dX10_init_142 : decode cX10_init 142 = .ok (.newarray .int, 2) := by decide +kernel
theorem dX10_init_144 : decode cX10_init 144 = .ok (.putfield 65, 3) := by decide +kernel
theorem dX10_init_147 : decode cX10_init 147 = .ok (.aload_n 0, 1) := by decide +kernel
theorem dX10_init_148 : decode cX10_init 148 = .ok (.iconst 5, 1) := by decide +kernel
theorem dX10_init_149 : decode cX10_init 149 = .ok (.newarray .int, 2) := by decide +kernel
theorem dX10_init_151 : decode cX10_init 151 = .ok (.putfield 68, 3) := by decide +kernel
theorem dX10_init_154 : decode cX10_init 154 = .ok (.aload_n 0, 1) := by decide +kernel
theorem dX10_init_155 : decode cX10_init 155 = .ok (.bipush 8, 2) := by decide +kernel
theorem dX10_init_157 : decode cX10_init 157 = .ok (.newarray .int, 2) := by decide +kernel
theorem dX10_init_159 : decode cX10_init 159 = .ok (.putfield 71, 3) := by decide +kernel
theorem dX10_init_162 : decode cX10_init 162 = .ok (.aload_n 0, 1) := by decide +kernel
theorem dX10_init_163 : decode cX10_init 163 = .ok (.bipush 8, 2) := by decide +kernel
theorem dX10_init_165 : decode cX10_init 165 = .ok (.newarray .int, 2) := by decide +kernel
theorem dX10_init_167 : decode cX10_init 167 = .ok (.putfield 74, 3) := by decide +kernel
theorem dX10_init_170 : decode cX10_init 170 = .ok (.aload_n 0, 1) := by decide +kernel
theorem dX10_init_171 : decode cX10_init 171 = .ok (.bipush 6, 2) := by decide +kernel
theorem dX10_init_173 : decode cX10_init 173 = .ok (.newarray .int, 2) := by decide +kernel
theorem dX10_init_175 : decode cX10_init 175 = .ok (.putfield 77, 3) := by decide +kernel
theorem dX10_init_178 : decode cX10_init 178 = .ok (.aload_n 0, 1) := by decide +kernel
theorem dX10_init_179 : decode cX10_init 179 = .ok (.bipush 6, 2) := by decide +kernel
theorem dX10_init_181 : decode cX10_init 181 = .ok (.newarray .int, 2) := by decide +kernel
theorem dX10_init_183 : decode cX10_init 183 = .ok (.putfield 80, 3) := by decide +kernel
theorem dX10_init_186 : decode cX10_init 186 = .ok (.aload_n 0, 1) := by decide +kernel
theorem dX10_init_187 : decode cX10_init 187 = .ok (.bipush 15, 2) := by decide +kernel
theorem dX10_init_189 : decode cX10_init 189 = .ok (.newarray .int, 2) := by decide +kernel
theorem dX10_init_191 : decode cX10_init 191 = .ok (.putfield 83, 3) := by decide +kernel
theorem dX10_init_194 : decode cX10_init 194 = .ok (.aload_n 0, 1) := by decide +kernel
theorem dX10_init_195 : decode cX10_init 195 = .ok (.bipush 15, 2) := by decide +kernel
theorem dX10_init_197 : decode cX10_init 197 = .ok (.newarray .int, 2) := by decide +kernel
theorem dX10_init_199 : decode cX10_init 199 = .ok (.putfield 86, 3) := by decide +kernel
theorem dX10_init_202 : decode cX10_init 202 = .ok (.aload_n 0, 1) := by decide +kernel
theorem dX10_init_203 : decode cX10_init 203 = .ok (.bipush 15, 2) := by decide +kernel
theorem dX10_init_205 : decode cX10_init 205 = .ok (.newarray .boolean, 2) := by decide +kernel
theorem dX10_init_207 : decode cX10_init 207 = .ok (.putfield 89, 3) := by decide +kernel
theorem dX10_init_210 : decode cX10_init 210 = .ok (.aload_n 0, 1) := by decide +kernel
theorem dX10_init_211 : decode cX10_init 211 = .ok (.bipush 88, 2) := by decide +kernel
theorem dX10_init_213 : decode cX10_init 213 = .ok (.newarray .int, 2) := by decide +kernel
theorem dX10_init_215 : decode cX10_init 215 = .ok (.putfield 93, 3) := by decide +kernel
theorem dX10_init_218 : decode cX10_init 218 = .ok (.aload_n 0, 1) := by decide +kernel
theorem dX10_init_219 : decode cX10_init 219 = .ok (.iconst 2, 1) := by decide +kernel
theorem dX10_init_220 : decode cX10_init 220 = .ok (.newarray .boolean, 2) := by decide +kernel
theorem dX10_init_222 : decode cX10_init 222 = .ok (.putfield 96, 3) := by decide +kernel
theorem dX10_init_225 : decode cX10_init 225 = .ok (.aload_n 0, 1) := by decide +kernel
theorem dX10_init_226 : decode cX10_init 226 = .ok (.iconst 0, 1) := by decide +kernel
theorem dX10_init_227 : decode cX10_init 227 = .ok (.putfield 99, 3) := by decide +kernel
theorem dX10_init_230 : decode cX10_init 230 = .ok (.return_, 1) := by decide +kernel
theorem dX10_in_0 : decode cX10_in 0 = .ok (.lload_n 0, 1) := by decide +kernel
theorem dX10_in_1 : decode cX10_in 1 = .ok (.lload_n 2, 1) := by decide +kernel
theorem dX10_in_2 : decode cX10_in 2 = .ok (.lcmp, 1) := by decide +kernel
theorem dX10_in_3 : decode cX10_in 3 = .ok (.ifCond .lt 14, 3) := by decide +kernel
theorem dX10_in_6 : decode cX10_in 6 = .ok (.lload_n 0, 1) := by decide +kernel
theorem dX10_in_7 : decode cX10_in 7 = .ok (.lload 4, 2) := by decide +kernel
theorem dX10_in_9 : decode cX10_in 9 = .ok (.lcmp, 1) := by decide +kernel
theorem dX10_in_10 : decode cX10_in 10 = .ok (.ifCond .gt 7, 3) := by decide +kernel
theorem dX10_in_13 : decode cX10_in 13 = .ok (.iconst 1, 1) := by decide +kernel
theorem dX10_in_14 : decode cX10_in 14 = .ok (.goto 4, 3) := by decide +kernel
theorem dX10_in_17 : decode cX10_in 17 = .ok (.iconst 0, 1) := by decide +kernel
theorem dX10_in_18 : decode cX10_in 18 = .ok (.ireturn, 1) := by decide +kernel
theorem dX10_has_0 : decode cX10_has 0 = .ok (.iload_n 0, 1) := by decide +kernel
theorem dX10_has_1 : decode cX10_has 1 = .ok (.iload_n 1, 1) := by decide +kernel
theorem dX10_has_2 : decode cX10_has 2 = .ok (.ishr, 1) := by decide +kernel
theorem dX10_has_3 : decode cX10_has 3 = .ok (.iconst 1, 1) := by decide +kernel
theorem dX10_has_4 : decode cX10_has 4 = .ok (.iand, 1) := by decide +kernel
theorem dX10_has_5 : decode cX10_has 5 = .ok (.iconst 1, 1) := by decide +kernel
theorem dX10_has_6 : decode cX10_has 6 = .ok (.if_icmp .ne 7, 3) := by decide +kernel
theorem dX10_has_9 : decode cX10_has 9 = .ok (.iconst 1, 1) := by decide +kernel
theorem dX10_has_10 : decode cX10_has 10 = .ok (.goto 4, 3) := by decide +kernel
theorem dX10_has_13 : decode cX10_has 13 = .ok (.iconst 0, 1) := by decide +kernel
theorem dX10_has_14 : decode cX10_has 14 = .ok (.ireturn, 1) := by decide +kernel
theorem dX10_bits_0 : decode cX10_bits 0 = .ok (.iconst 0, 1) := by decide +kernel
theorem dX10_bits_1 : decode cX10_bits 1 = .ok (.istore_n 1, 1) := by decide +kernel
theorem dX10_bits_2 : decode cX10_bits 2 = .ok (.iconst 0, 1) := by decide +kernel
theorem dX10_bits_3 : decode cX10_bits 3 = .ok (.istore_n 2, 1) := by decide +kernel
theorem dX10_bits_4 : decode cX10_bits 4 = .ok (.iload_n 2, 1) := by decide +kernel
theorem dX10_bits_5 : decode cX10_bits 5 = .ok (.bipush 8, 2) := by decide +kernel
theorem dX10_bits_7 : decode cX10_bits 7 = .ok (.if_icmp .ge 17, 3) := by decide +kernel
theorem dX10_bits_10 : decode cX10_bits 10 = .ok (.iload_n 1, 1) := by decide +kernel
theorem dX10_bits_11 : decode cX10_bits 11 = .ok (.iload_n 0, 1) := by decide +kernel
theorem dX10_bits_12 : decode cX10_bits 12 = .ok (.iload_n 2, 1) := by decide +kernel
theorem dX10_bits_13 : decode cX10_bits 13 = .ok (.ishr, 1) := by decide +kernel
theorem dX10_bits_14 : decode cX10_bits 14 = .ok (.iconst 1, 1) := by decide +kernel
theorem dX10_bits_15 : decode cX10_bits 15 = .ok (.iand, 1) := by decide +kernel
theorem dX10_bits_16 : decode cX10_bits 16 = .ok (.iadd, 1) := by decide +kernel
theorem dX10_bits_17 : decode cX10_bits 17 = .ok (.istore_n 1, 1) := by decide +kernel
theorem dX10_bits_18 : decode cX10_bits 18 = .ok (.iinc 2 1, 3) := by decide +kernel
theorem dX10_bits_21 : decode cX10_bits 21 = .ok (.goto (-17), 3) := by decide +kernel
theorem dX10_bits_24 : decode cX10_bits 24 = .ok (.iload_n 1, 1) := by decide +kernel
theorem dX10_bits_25 : decode cX10_bits 25 = .ok (.ireturn, 1) := by decide +kernel
theorem dX10_apart_0 : decode cX10_apart 0 = .ok (.iload_n 0, 1) := by decide +kernel
theorem dX10_apart_1 : decode cX10_apart 1 = .ok (.iload_n 1, 1) := by decide +kernel
theorem dX10_apart_2 : decode cX10_apart 2 = .ok (.if_icmp .le 9, 3) := by decide +kernel
theorem dX10_apart_5 : decode cX10_apart 5 = .ok (.iload_n 0, 1) := by decide +kernel
theorem dX10_apart_6 : decode cX10_apart 6 = .ok (.iload_n 1, 1) := by decide +kernel
theorem dX10_apart_7 : decode cX10_apart 7 = .ok (.isub, 1) := by decide +kernel
theorem dX10_apart_8 : decode cX10_apart 8 = .ok (.goto 6, 3) := by decide +kernel
theorem dX10_apart_11 : decode cX10_apart 11 = .ok (.iload_n 1, 1) := by decide +kernel
theorem dX10_apart_12 : decode cX10_apart 12 = .ok (.iload_n 0, 1) := by decide +kernel
theorem dX10_apart_13 : decode cX10_apart 13 = .ok (.isub, 1) := by decide +kernel
theorem dX10_apart_14 : decode cX10_apart 14 = .ok (.ireturn, 1) := by decide +kernel
theorem dX10_isHouse_0 : decode cX10_isHouse 0 = .ok (.iload_n 1, 1) := by decide +kernel
theorem dX10_isHouse_1 : decode cX10_isHouse 1 = .ok (.i2l, 1) := by decide +kernel
theorem dX10_isHouse_2 : decode cX10_isHouse 2 = .ok (.lconst 0, 1) := by decide +kernel
theorem dX10_isHouse_3 : decode cX10_isHouse 3 = .ok (.aload_n 0, 1) := by decide +kernel
theorem dX10_isHouse_4 : decode cX10_isHouse 4 = .ok (.getfield 102, 3) := by decide +kernel
theorem dX10_isHouse_7 : decode cX10_isHouse 7 = .ok (.iconst 1, 1) := by decide +kernel
theorem dX10_isHouse_8 : decode cX10_isHouse 8 = .ok (.isub, 1) := by decide +kernel
theorem dX10_isHouse_9 : decode cX10_isHouse 9 = .ok (.i2l, 1) := by decide +kernel
theorem dX10_isHouse_10 : decode cX10_isHouse 10 = .ok (.invokestatic 105, 3) := by decide +kernel
theorem dX10_isHouse_13 : decode cX10_isHouse 13 = .ok (.ireturn, 1) := by decide +kernel
theorem dX10_isSet_0 : decode cX10_isSet 0 = .ok (.iload_n 1, 1) := by decide +kernel
theorem dX10_isSet_1 : decode cX10_isSet 1 = .ok (.i2l, 1) := by decide +kernel
theorem dX10_isSet_2 : decode cX10_isSet 2 = .ok (.lconst 0, 1) := by decide +kernel
theorem dX10_isSet_3 : decode cX10_isSet 3 = .ok (.iconst 1, 1) := by decide +kernel
theorem dX10_isSet_4 : decode cX10_isSet 4 = .ok (.aload_n 0, 1) := by decide +kernel
theorem dX10_isSet_5 : decode cX10_isSet 5 = .ok (.getfield 102, 3) := by decide +kernel
theorem dX10_isSet_8 : decode cX10_isSet 8 = .ok (.ishl, 1) := by decide +kernel
theorem dX10_isSet_9 : decode cX10_isSet 9 = .ok (.iconst 1, 1) := by decide +kernel
theorem dX10_isSet_10 : decode cX10_isSet 10 = .ok (.isub, 1) := by decide +kernel
theorem dX10_isSet_11 : decode cX10_isSet 11 = .ok (.i2l, 1) := by decide +kernel
theorem dX10_isSet_12 : decode cX10_isSet 12 = .ok (.invokestatic 105, 3) := by decide +kernel
theorem dX10_isSet_15 : decode cX10_isSet 15 = .ok (.ireturn, 1) := by decide +kernel
theorem dX10_feed_0 : decode cX10_feed 0 = .ok (.iload_n 1, 1) := by decide +kernel
theorem dX10_feed_1 : decode cX10_feed 1 = .ok (.i2l, 1) := by decide +kernel
theorem dX10_feed_2 : decode cX10_feed 2 = .ok (.lconst 0, 1) := by decide +kernel
theorem dX10_feed_3 : decode cX10_feed 3 = .ok (.ldc2_w 109, 3) := by decide +kernel
theorem dX10_feed_6 : decode cX10_feed 6 = .ok (.invokestatic 105, 3) := by decide +kernel
theorem dX10_feed_9 : decode cX10_feed 9 = .ok (.ifCond .ne 6, 3) := by decide +kernel
theorem dX10_feed_12 : decode cX10_feed 12 = .ok (.ldc 111, 2) := by decide +kernel
theorem dX10_feed_14 : decode cX10_feed 14 = .ok (.ireturn, 1) := by decide +kernel
theorem dX10_feed_15 : decode cX10_feed 15 = .ok (.aload_n 0, 1) := by decide +kernel
theorem dX10_feed_16 : decode cX10_feed 16 = .ok (.getfield 112, 3) := by decide +kernel
theorem dX10_feed_19 : decode cX10_feed 19 = .ok (.sipush 230, 3) := by decide +kernel
theorem dX10_feed_22 : decode cX10_feed 22 = .ok (.if_icmp .ne 6, 3) := by decide +kernel
theorem dX10_feed_25 : decode cX10_feed 25 = .ok (.ldc 115, 2) := by decide +kernel
theorem dX10_feed_27 : decode cX10_feed 27 = .ok (.ireturn, 1) := by decide +kernel
theorem dX10_feed_28 : decode cX10_feed 28 = .ok (.aload_n 0, 1) := by decide +kernel
theorem dX10_feed_29 : decode cX10_feed 29 = .ok (.getfield 32, 3) := by decide +kernel
theorem dX10_feed_32 : decode cX10_feed 32 = .ok (.aload_n 0, 1) := by decide +kernel
theorem dX10_feed_33 : decode cX10_feed 33 = .ok (.getfield 112, 3) := by decide +kernel
theorem dX10_feed_36 : decode cX10_feed 36 = .ok (.iload_n 1, 1) := by decide +kernel
theorem dX10_feed_37 : decode cX10_feed 37 = .ok (.iastore, 1) := by decide +kernel
theorem dX10_feed_38 : decode cX10_feed 38 = .ok (.aload_n 0, 1) := by decide +kernel
theorem dX10_feed_39 : decode cX10_feed 39 = .ok (.dup, 1) := by decide +kernel
theorem dX10_feed_40 : decode cX10_feed 40 = .ok (.getfield 112, 3) := by decide +kernel
theorem dX10_feed_43 : decode cX10_feed 43 = .ok (.iconst 1, 1) := by decide +kernel
theorem dX10_feed_44 : decode cX10_feed 44 = .ok (.iadd, 1) := by decide +kernel
theorem dX10_feed_45 : decode cX10_feed 45 = .ok (.putfield 112, 3) := by decide +kernel
theorem dX10_feed_48 : decode cX10_feed 48 = .ok (.aload_n 0, 1) := by decide +kernel
theorem dX10_feed_49 : decode cX10_feed 49 = .ok (.getfield 112, 3) := by decide +kernel
theorem dX10_feed_52 : decode cX10_feed 52 = .ok (.ireturn, 1) := by decide +kernel
theorem dX10_here_0 : decode cX10_here 0 = .ok (.aload_n 0, 1) := by decide +kernel
theorem dX10_here_1 : decode cX10_here 1 = .ok (.getfield 116, 3) := by decide +kernel
theorem dX10_here_4 : decode cX10_here 4 = .ok (.aload_n 0, 1) := by decide +kernel
theorem dX10_here_5 : decode cX10_here 5 = .ok (.getfield 112, 3) := by decide +kernel
theorem dX10_here_8 : decode cX10_here 8 = .ok (.if_icmp .ge 30, 3) := by decide +kernel
theorem dX10_here_11 : decode cX10_here 11 = .ok (.aload_n 0, 1) := by decide +kernel
theorem dX10_here_12 : decode cX10_here 12 = .ok (.getfield 32, 3) := by decide +kernel
theorem dX10_here_15 : decode cX10_here 15 = .ok (.aload_n 0, 1) := by decide +kernel
theorem dX10_here_16 : decode cX10_here 16 = .ok (.getfield 116, 3) := by decide +kernel
theorem dX10_here_19 : decode cX10_here 19 = .ok (.iaload, 1) := by decide +kernel
theorem dX10_here_20 : decode cX10_here 20 = .ok (.bipush 32, 2) := by decide +kernel
theorem dX10_here_22 : decode cX10_here 22 = .ok (.if_icmp .ne 16, 3) := by decide +kernel
theorem dX10_here_25 : decode cX10_here 25 = .ok (.aload_n 0, 1) := by decide +kernel
theorem dX10_here_26 : decode cX10_here 26 = .ok (.dup, 1) := by decide +kernel
theorem dX10_here_27 : decode cX10_here 27 = .ok (.getfield 116, 3) := by decide +kernel
theorem dX10_here_30 : decode cX10_here 30 = .ok (.iconst 1, 1) := by decide +kernel
theorem dX10_here_31 : decode cX10_here 31 = .ok (.iadd, 1) := by decide +kernel
theorem dX10_here_32 : decode cX10_here 32 = .ok (.putfield 116, 3) := by decide +kernel
theorem dX10_here_35 : decode cX10_here 35 = .ok (.goto (-35), 3) := by decide +kernel
theorem dX10_here_38 : decode cX10_here 38 = .ok (.aload_n 0, 1) := by decide +kernel
theorem dX10_here_39 : decode cX10_here 39 = .ok (.getfield 116, 3) := by decide +kernel
theorem dX10_here_42 : decode cX10_here 42 = .ok (.aload_n 0, 1) := by decide +kernel
theorem dX10_here_43 : decode cX10_here 43 = .ok (.getfield 112, 3) := by decide +kernel
theorem dX10_here_46 : decode cX10_here 46 = .ok (.if_icmp .ge 15, 3) := by decide +kernel
theorem dX10_here_49 : decode cX10_here 49 = .ok (.aload_n 0, 1) := by decide +kernel
theorem dX10_here_50 : decode cX10_here 50 = .ok (.getfield 32, 3) := by decide +kernel
theorem dX10_here_53 : decode cX10_here 53 = .ok (.aload_n 0, 1) := by decide +kernel
theorem dX10_here_54 : decode cX10_here 54 = .ok (.getfield 116, 3) := by decide +kernel
theorem dX10_here_57 : decode cX10_here 57 = .ok (.iaload, 1) := by decide +kernel
theorem dX10_here_58 : decode cX10_here 58 = .ok (.goto 4, 3) := by decide +kernel
theorem dX10_here_61 : decode cX10_here 61 = .ok (.iconst (-1), 1) := by decide +kernel
theorem dX10_here_62 : decode cX10_here 62 = .ok (.ireturn, 1) := by decide +kernel
theorem dX10_fails_0 : decode cX10_fails 0 = .ok (.aload_n 0, 1) := by decide +kernel
theorem dX10_fails_1 : decode cX10_fails 1 = .ok (.iload_n 2, 1) := by decide +kernel
theorem dX10_fails_2 : decode cX10_fails 2 = .ok (.putfield 35, 3) := by decide +kernel
theorem dX10_fails_5 : decode cX10_fails 5 = .ok (.iload_n 1, 1) := by decide +kernel
theorem dX10_fails_6 : decode cX10_fails 6 = .ok (.ireturn, 1) := by decide +kernel
theorem dX10_takeNumber_0 : decode cX10_takeNumber 0 = .ok (.aload_n 0, 1) := by decide +kernel
theorem dX10_takeNumber_1 : decode cX10_takeNumber 1 = .ok (.invokevirtual 119, 3) := by decide +kernel
theorem dX10_takeNumber_4 : decode cX10_takeNumber 4 = .ok (.istore_n 3, 1) := by decide +kernel
theorem dX10_takeNumber_5 : decode cX10_takeNumber 5 = .ok (.iload_n 3, 1) := by decide +kernel
theorem dX10_takeNumber_6 : decode cX10_takeNumber 6 = .ok (.i2l, 1) := by decide +kernel
theorem dX10_takeNumber_7 : decode cX10_takeNumber 7 = .ok (.ldc2_w 123, 3) := by decide +kernel
theorem dX10_takeNumber_10 : decode cX10_takeNumber 10 = .ok (.ldc2_w 125, 3) := by decide +kernel
theorem dX10_takeNumber_13 : decode cX10_takeNumber 13 = .ok (.invokestatic 105, 3) := by decide +kernel
theorem dX10_takeNumber_16 : decode cX10_takeNumber 16 = .ok (.ifCond .ne 13, 3) := by decide +kernel
theorem dX10_takeNumber_19 : decode cX10_takeNumber 19 = .ok (.aload_n 0, 1) := by decide +kernel
theorem dX10_takeNumber_20 : decode cX10_takeNumber 20 = .ok (.iconst 1, 1) := by decide +kernel
theorem dX10_takeNumber_21 : decode cX10_takeNumber 21 = .ok (.aload_n 0, 1) := by decide +kernel
theorem dX10_takeNumber_22 : decode cX10_takeNumber 22 = .ok (.getfield 116, 3) := by decide +kernel
theorem dX10_takeNumber_25 : decode cX10_takeNumber 25 = .ok (.invokevirtual 127, 3) := by decide +kernel
theorem dX10_takeNumber_28 : decode cX10_takeNumber 28 = .ok (.ireturn, 1) := by decide +kernel
theorem dX10_takeNumber_29 : decode cX10_takeNumber 29 = .ok (.aload_n 0, 1) := by decide +kernel
theorem dX10_takeNumber_30 : decode cX10_takeNumber 30 = .ok (.aload_n 0, 1) := by decide +kernel
theorem dX10_takeNumber_31 : decode cX10_takeNumber 31 = .ok (.getfield 116, 3) := by decide +kernel
theorem dX10_takeNumber_34 : decode cX10_takeNumber 34 = .ok (.putfield 131, 3) := by decide +kernel
theorem dX10_takeNumber_37 : decode cX10_takeNumber 37 = .ok (.aload_n 0, 1) := by decide +kernel
theorem dX10_takeNumber_38 : decode cX10_takeNumber 38 = .ok (.iconst 0, 1) := by decide +kernel
theorem dX10_takeNumber_39 : decode cX10_takeNumber 39 = .ok (.putfield 134, 3) := by decide +kernel
theorem dX10_takeNumber_42 : decode cX10_takeNumber 42 = .ok (.aload_n 0, 1) := by decide +kernel
theorem dX10_takeNumber_43 : decode cX10_takeNumber 43 = .ok (.getfield 116, 3) := by decide +kernel
theorem dX10_takeNumber_46 : decode cX10_takeNumber 46 = .ok (.aload_n 0, 1) := by decide +kernel
theorem dX10_takeNumber_47 : decode cX10_takeNumber 47 = .ok (.getfield 112, 3) := by decide +kernel
theorem dX10_takeNumber_50 : decode cX10_takeNumber 50 = .ok (.if_icmp .ge 79, 3) := by decide +kernel
theorem dX10_takeNumber_53 : decode cX10_takeNumber 53 = .ok (.aload_n 0, 1) := by decide +kernel
theorem dX10_takeNumber_54 : decode cX10_takeNumber 54 = .ok (.getfield 32, 3) := by decide +kernel
theorem dX10_takeNumber_57 : decode cX10_takeNumber 57 = .ok (.aload_n 0, 1) := by decide +kernel
theorem dX10_takeNumber_58 : decode cX10_takeNumber 58 = .ok (.getfield 116, 3) := by decide +kernel
theorem dX10_takeNumber_61 : decode cX10_takeNumber 61 = .ok (.iaload, 1) := by decide +kernel
theorem dX10_takeNumber_62 : decode cX10_takeNumber 62 = .ok (.i2l, 1) := by decide +kernel
theorem dX10_takeNumber_63 : decode cX10_takeNumber 63 = .ok (.ldc2_w 123, 3) := by decide +kernel
theorem dX10_takeNumber_66 : decode cX10_takeNumber 66 = .ok (.ldc2_w 125, 3) := by decide +kernel
theorem dX10_takeNumber_69 : decode cX10_takeNumber 69 = .ok (.invokestatic 105, 3) := by decide +kernel
theorem dX10_takeNumber_72 : decode cX10_takeNumber 72 = .ok (.ifCond .eq 57, 3) := by decide +kernel
theorem dX10_takeNumber_75 : decode cX10_takeNumber 75 = .ok (.aload_n 0, 1) := by decide +kernel
theorem dX10_takeNumber_76 : decode cX10_takeNumber 76 = .ok (.aload_n 0, 1) := by decide +kernel
theorem dX10_takeNumber_77 : decode cX10_takeNumber 77 = .ok (.getfield 134, 3) := by decide +kernel
theorem dX10_takeNumber_80 : decode cX10_takeNumber 80 = .ok (.sipush 10000, 3) := by decide +kernel
theorem dX10_takeNumber_83 : decode cX10_takeNumber 83 = .ok (.if_icmp .le 10, 3) := by decide +kernel
theorem dX10_takeNumber_86 : decode cX10_takeNumber 86 = .ok (.aload_n 0, 1) := by decide +kernel
theorem dX10_takeNumber_87 : decode cX10_takeNumber 87 = .ok (.getfield 134, 3) := by decide +kernel
theorem dX10_takeNumber_90 : decode cX10_takeNumber 90 = .ok (.goto 23, 3) := by decide +kernel
theorem dX10_takeNumber_93 : decode cX10_takeNumber 93 = .ok (.bipush 10, 2) := by decide +kernel
theorem dX10_takeNumber_95 : decode cX10_takeNumber 95 = .ok (.aload_n 0, 1) := by decide +kernel
theorem dX10_takeNumber_96 : decode cX10_takeNumber 96 = .ok (.getfield 134, 3) := by decide +kernel
theorem dX10_takeNumber_99 : decode cX10_takeNumber 99 = .ok (.imul, 1) := by decide +kernel
theorem dX10_takeNumber_100 : decode cX10_takeNumber 100 = .ok (.aload_n 0, 1) := by decide +kernel
theorem dX10_takeNumber_101 : decode cX10_takeNumber 101 = .ok (.getfield 32, 3) := by decide +kernel
theorem dX10_takeNumber_104 : decode cX10_takeNumber 104 = .ok (.aload_n 0, 1) := by decide +kernel
theorem dX10_takeNumber_105 : decode cX10_takeNumber 105 = .ok (.getfield 116, 3) := by decide +kernel
theorem dX10_takeNumber_108 : decode cX10_takeNumber 108 = .ok (.iaload, 1) := by decide +kernel
theorem dX10_takeNumber_109 : decode cX10_takeNumber 109 = .ok (.iadd, 1) := by decide +kernel
theorem dX10_takeNumber_110 : decode cX10_takeNumber 110 = .ok (.bipush 48, 2) := by decide +kernel
theorem dX10_takeNumber_112 : decode cX10_takeNumber 112 = .ok (.isub, 1) := by decide +kernel
theorem dX10_takeNumber_113 : decode cX10_takeNumber 113 = .ok (.putfield 134, 3) := by decide +kernel
theorem dX10_takeNumber_116 : decode cX10_takeNumber 116 = .ok (.aload_n 0, 1) := by decide +kernel
theorem dX10_takeNumber_117 : decode cX10_takeNumber 117 = .ok (.dup, 1) := by decide +kernel
theorem dX10_takeNumber_118 : decode cX10_takeNumber 118 = .ok (.getfield 116, 3) := by decide +kernel
theorem dX10_takeNumber_121 : decode cX10_takeNumber 121 = .ok (.iconst 1, 1) := by decide +kernel
theorem dX10_takeNumber_122 : decode cX10_takeNumber 122 = .ok (.iadd, 1) := by decide +kernel
theorem dX10_takeNumber_123 : decode cX10_takeNumber 123 = .ok (.putfield 116, 3) := by decide +kernel
theorem dX10_takeNumber_126 : decode cX10_takeNumber 126 = .ok (.goto (-84), 3) := by decide +kernel
theorem dX10_takeNumber_129 : decode cX10_takeNumber 129 = .ok (.aload_n 0, 1) := by decide +kernel
theorem dX10_takeNumber_130 : decode cX10_takeNumber 130 = .ok (.getfield 116, 3) := by decide +kernel
theorem dX10_takeNumber_133 : decode cX10_takeNumber 133 = .ok (.aload_n 0, 1) := by decide +kernel
theorem dX10_takeNumber_134 : decode cX10_takeNumber 134 = .ok (.getfield 131, 3) := by decide +kernel
theorem dX10_takeNumber_137 : decode cX10_takeNumber 137 = .ok (.isub, 1) := by decide +kernel
theorem dX10_takeNumber_138 : decode cX10_takeNumber 138 = .ok (.iconst 3, 1) := by decide +kernel
theorem dX10_takeNumber_139 : decode cX10_takeNumber 139 = .ok (.if_icmp .gt 18, 3) := by decide +kernel
theorem dX10_takeNumber_142 : decode cX10_takeNumber 142 = .ok (.aload_n 0, 1) := by decide +kernel
theorem dX10_takeNumber_143 : decode cX10_takeNumber 143 = .ok (.getfield 134, 3) := by decide +kernel
theorem dX10_takeNumber_146 : decode cX10_takeNumber 146 = .ok (.i2l, 1) := by decide +kernel
theorem dX10_takeNumber_147 : decode cX10_takeNumber 147 = .ok (.iload_n 1, 1) := by decide +kernel
theorem dX10_takeNumber_148 : decode cX10_takeNumber 148 = .ok (.i2l, 1) := by decide +kernel
theorem dX10_takeNumber_149 : decode cX10_takeNumber 149 = .ok (.iload_n 2, 1) := by decide +kernel
theorem dX10_takeNumber_150 : decode cX10_takeNumber 150 = .ok (.i2l, 1) := by decide +kernel
theorem dX10_takeNumber_151 : decode cX10_takeNumber 151 = .ok (.invokestatic 105, 3) := by decide +kernel
theorem dX10_takeNumber_154 : decode cX10_takeNumber 154 = .ok (.ifCond .ne 15, 3) := by decide +kernel
theorem dX10_takeNumber_157 : decode cX10_takeNumber 157 = .ok (.aload_n 0, 1) := by decide +kernel
theorem dX10_takeNumber_158 : decode cX10_takeNumber 158 = .ok (.iconst 2, 1) := by decide +kernel
theorem dX10_takeNumber_159 : decode cX10_takeNumber 159 = .ok (.aload_n 0, 1) := by decide +kernel
theorem dX10_takeNumber_160 : decode cX10_takeNumber 160 = .ok (.getfield 131, 3) := by decide +kernel
theorem dX10_takeNumber_163 : decode cX10_takeNumber 163 = .ok (.invokevirtual 127, 3) := by decide +kernel
theorem dX10_takeNumber_166 : decode cX10_takeNumber 166 = .ok (.goto 4, 3) := by decide +kernel
theorem dX10_takeNumber_169 : decode cX10_takeNumber 169 = .ok (.iconst 0, 1) := by decide +kernel
theorem dX10_takeNumber_170 : decode cX10_takeNumber 170 = .ok (.ireturn, 1) := by decide +kernel
theorem dX10_into_0 : decode cX10_into 0 = .ok (.aload_n 0, 1) := by decide +kernel
theorem dX10_into_1 : decode cX10_into 1 = .ok (.iload_n 3, 1) := by decide +kernel
theorem dX10_into_2 : decode cX10_into 2 = .ok (.iload 4, 2) := by decide +kernel
theorem dX10_into_4 : decode cX10_into 4 = .ok (.invokevirtual 137, 3) := by decide +kernel
theorem dX10_into_7 : decode cX10_into 7 = .ok (.istore 5, 2) := by decide +kernel
theorem dX10_into_9 : decode cX10_into 9 = .ok (.aload_n 1, 1) := by decide +kernel
theorem dX10_into_10 : decode cX10_into 10 = .ok (.iload_n 2, 1) := by decide +kernel
theorem dX10_into_11 : decode cX10_into 11 = .ok (.aload_n 0, 1) := by decide +kernel
theorem dX10_into_12 : decode cX10_into 12 = .ok (.getfield 134, 3) := by decide +kernel
theorem dX10_into_15 : decode cX10_into 15 = .ok (.iastore, 1) := by decide +kernel
theorem dX10_into_16 : decode cX10_into 16 = .ok (.iload 5, 2) := by decide +kernel
theorem dX10_into_18 : decode cX10_into 18 = .ok (.ireturn, 1) := by decide +kernel
theorem dX10_takeBay_0 : decode cX10_takeBay 0 = .ok (.aload_n 0, 1) := by decide +kernel
theorem dX10_takeBay_1 : decode cX10_takeBay 1 = .ok (.aload_n 0, 1) := by decide +kernel
theorem dX10_takeBay_2 : decode cX10_takeBay 2 = .ok (.getfield 38, 3) := by decide +kernel
theorem dX10_takeBay_5 : decode cX10_takeBay 5 = .ok (.iconst 0, 1) := by decide +kernel
theorem dX10_takeBay_6 : decode cX10_takeBay 6 = .ok (.iconst 2, 1) := by decide +kernel
theorem dX10_takeBay_7 : decode cX10_takeBay 7 = .ok (.bipush 30, 2) := by decide +kernel
theorem dX10_takeBay_9 : decode cX10_takeBay 9 = .ok (.invokevirtual 140, 3) := by decide +kernel
theorem dX10_takeBay_12 : decode cX10_takeBay 12 = .ok (.istore_n 1, 1) := by decide +kernel
theorem dX10_takeBay_13 : decode cX10_takeBay 13 = .ok (.iload_n 1, 1) := by decide +kernel
theorem dX10_takeBay_14 : decode cX10_takeBay 14 = .ok (.ifCond .le 7, 3) := by decide +kernel
theorem dX10_takeBay_17 : decode cX10_takeBay 17 = .ok (.iload_n 1, 1) := by decide +kernel
theorem dX10_takeBay_18 : decode cX10_takeBay 18 = .ok (.goto 15, 3) := by decide +kernel
theorem dX10_takeBay_21 : decode cX10_takeBay 21 = .ok (.aload_n 0, 1) := by decide +kernel
theorem dX10_takeBay_22 : decode cX10_takeBay 22 = .ok (.aload_n 0, 1) := by decide +kernel
theorem dX10_takeBay_23 : decode cX10_takeBay 23 = .ok (.getfield 38, 3) := by decide +kernel
theorem dX10_takeBay_26 : decode cX10_takeBay 26 = .ok (.iconst 1, 1) := by decide +kernel
theorem dX10_takeBay_27 : decode cX10_takeBay 27 = .ok (.iconst 0, 1) := by decide +kernel
theorem dX10_takeBay_28 : decode cX10_takeBay 28 = .ok (.bipush 20, 2) := by decide +kernel
theorem dX10_takeBay_30 : decode cX10_takeBay 30 = .ok (.invokevirtual 140, 3) := by decide +kernel
theorem dX10_takeBay_33 : decode cX10_takeBay 33 = .ok (.istore_n 1, 1) := by decide +kernel
theorem dX10_takeBay_34 : decode cX10_takeBay 34 = .ok (.iload_n 1, 1) := by decide +kernel
theorem dX10_takeBay_35 : decode cX10_takeBay 35 = .ok (.ifCond .le 7, 3) := by decide +kernel
theorem dX10_takeBay_38 : decode cX10_takeBay 38 = .ok (.iload_n 1, 1) := by decide +kernel
theorem dX10_takeBay_39 : decode cX10_takeBay 39 = .ok (.goto 15, 3) := by decide +kernel
theorem dX10_takeBay_42 : decode cX10_takeBay 42 = .ok (.aload_n 0, 1) := by decide +kernel
theorem dX10_takeBay_43 : decode cX10_takeBay 43 = .ok (.aload_n 0, 1) := by decide +kernel
theorem dX10_takeBay_44 : decode cX10_takeBay 44 = .ok (.getfield 38, 3) := by decide +kernel
theorem dX10_takeBay_47 : decode cX10_takeBay 47 = .ok (.iconst 2, 1) := by decide +kernel
theorem dX10_takeBay_48 : decode cX10_takeBay 48 = .ok (.iconst 0, 1) := by decide +kernel
theorem dX10_takeBay_49 : decode cX10_takeBay 49 = .ok (.bipush 10, 2) := by decide +kernel
theorem dX10_takeBay_51 : decode cX10_takeBay 51 = .ok (.invokevirtual 140, 3) := by decide +kernel
theorem dX10_takeBay_54 : decode cX10_takeBay 54 = .ok (.ireturn, 1) := by decide +kernel
theorem dX10_takeCell_0 : decode cX10_takeCell 0 = .ok (.aload_n 0, 1) := by decide +kernel
theorem dX10_takeCell_1 : decode cX10_takeCell 1 = .ok (.aload_n 0, 1) := by decide +kernel
theorem dX10_takeCell_2 : decode cX10_takeCell 2 = .ok (.getfield 41, 3) := by decide +kernel
theorem dX10_takeCell_5 : decode cX10_takeCell 5 = .ok (.iload_n 1, 1) := by decide +kernel
theorem dX10_takeCell_6 : decode cX10_takeCell 6 = .ok (.iconst 0, 1) := by decide +kernel
theorem dX10_takeCell_7 : decode cX10_takeCell 7 = .ok (.aload_n 0, 1) := by decide +kernel
theorem dX10_takeCell_8 : decode cX10_takeCell 8 = .ok (.getfield 38, 3) := by decide +kernel
theorem dX10_takeCell_11 : decode cX10_takeCell 11 = .ok (.iconst 0, 1) := by decide +kernel
theorem dX10_takeCell_12 : decode cX10_takeCell 12 = .ok (.iaload, 1) := by decide +kernel
theorem dX10_takeCell_13 : decode cX10_takeCell 13 = .ok (.iconst 1, 1) := by decide +kernel
theorem dX10_takeCell_14 : decode cX10_takeCell 14 = .ok (.isub, 1) := by decide +kernel
theorem dX10_takeCell_15 : decode cX10_takeCell 15 = .ok (.invokevirtual 140, 3) := by decide +kernel
theorem dX10_takeCell_18 : decode cX10_takeCell 18 = .ok (.istore_n 2, 1) := by decide +kernel
theorem dX10_takeCell_19 : decode cX10_takeCell 19 = .ok (.iconst 0, 1) := by decide +kernel
theorem dX10_takeCell_20 : decode cX10_takeCell 20 = .ok (.istore_n 3, 1) := by decide +kernel
theorem dX10_takeCell_21 : decode cX10_takeCell 21 = .ok (.iload_n 3, 1) := by decide +kernel
theorem dX10_takeCell_22 : decode cX10_takeCell 22 = .ok (.iload_n 1, 1) := by decide +kernel
theorem dX10_takeCell_23 : decode cX10_takeCell 23 = .ok (.if_icmp .ge 40, 3) := by decide +kernel
theorem dX10_takeCell_26 : decode cX10_takeCell 26 = .ok (.iload_n 2, 1) := by decide +kernel
theorem dX10_takeCell_27 : decode cX10_takeCell 27 = .ok (.ifCond .ne 36, 3) := by decide +kernel
theorem dX10_takeCell_30 : decode cX10_takeCell 30 = .ok (.aload_n 0, 1) := by decide +kernel
theorem dX10_takeCell_31 : decode cX10_takeCell 31 = .ok (.getfield 41, 3) := by decide +kernel
theorem dX10_takeCell_34 : decode cX10_takeCell 34 = .ok (.iload_n 3, 1) := by decide +kernel
theorem dX10_takeCell_35 : decode cX10_takeCell 35 = .ok (.iaload, 1) := by decide +kernel
theorem dX10_takeCell_36 : decode cX10_takeCell 36 = .ok (.aload_n 0, 1) := by decide +kernel
theorem dX10_takeCell_37 : decode cX10_takeCell 37 = .ok (.getfield 134, 3) := by decide +kernel
theorem dX10_takeCell_40 : decode cX10_takeCell 40 = .ok (.if_icmp .ne 15, 3) := by decide +kernel
theorem dX10_takeCell_43 : decode cX10_takeCell 43 = .ok (.aload_n 0, 1) := by decide +kernel
theorem dX10_takeCell_44 : decode cX10_takeCell 44 = .ok (.iconst 4, 1) := by decide +kernel
theorem dX10_takeCell_45 : decode cX10_takeCell 45 = .ok (.aload_n 0, 1) := by decide +kernel
theorem dX10_takeCell_46 : decode cX10_takeCell 46 = .ok (.getfield 131, 3) := by decide +kernel
theorem dX10_takeCell_49 : decode cX10_takeCell 49 = .ok (.invokevirtual 127, 3) := by decide +kernel
theorem dX10_takeCell_52 : decode cX10_takeCell 52 = .ok (.goto 4, 3) := by decide +kernel
theorem dX10_takeCell_55 : decode cX10_takeCell 55 = .ok (.iconst 0, 1) := by decide +kernel
theorem dX10_takeCell_56 : decode cX10_takeCell 56 = .ok (.istore_n 2, 1) := by decide +kernel
theorem dX10_takeCell_57 : decode cX10_takeCell 57 = .ok (.iinc 3 1, 3) := by decide +kernel
theorem dX10_takeCell_60 : decode cX10_takeCell 60 = .ok (.goto (-39), 3) := by decide +kernel
theorem dX10_takeCell_63 : decode cX10_takeCell 63 = .ok (.iload_n 2, 1) := by decide +kernel
theorem dX10_takeCell_64 : decode cX10_takeCell 64 = .ok (.ireturn, 1) := by decide +kernel
theorem dX10_isStar_0 : decode cX10_isStar 0 = .ok (.iload_n 1, 1) := by decide +kernel
theorem dX10_isStar_1 : decode cX10_isStar 1 = .ok (.aload_n 0, 1) := by decide +kernel
theorem dX10_isStar_2 : decode cX10_isStar 2 = .ok (.getfield 112, 3) := by decide +kernel
theorem dX10_isStar_5 : decode cX10_isStar 5 = .ok (.if_icmp .ge 26, 3) := by decide +kernel
theorem dX10_isStar_8 : decode cX10_isStar 8 = .ok (.aload_n 0, 1) := by decide +kernel
theorem dX10_isStar_9 : decode cX10_isStar 9 = .ok (.getfield 32, 3) := by decide +kernel
theorem dX10_isStar_12 : decode cX10_isStar 12 = .ok (.iload_n 1, 1) := by decide +kernel
theorem dX10_isStar_13 : decode cX10_isStar 13 = .ok (.iaload, 1) := by decide +kernel
theorem dX10_isStar_14 : decode cX10_isStar 14 = .ok (.i2l, 1) := by decide +kernel
theorem dX10_isStar_15 : decode cX10_isStar 15 = .ok (.ldc2_w 144, 3) := by decide +kernel
theorem dX10_isStar_18 : decode cX10_isStar 18 = .ok (.ldc2_w 146, 3) := by decide +kernel
theorem dX10_isStar_21 : decode cX10_isStar 21 = .ok (.invokestatic 105, 3) := by decide +kernel
theorem dX10_isStar_24 : decode cX10_isStar 24 = .ok (.ifCond .eq 7, 3) := by decide +kernel
theorem dX10_isStar_27 : decode cX10_isStar 27 = .ok (.iconst 1, 1) := by decide +kernel
theorem dX10_isStar_28 : decode cX10_isStar 28 = .ok (.goto 4, 3) := by decide +kernel
theorem dX10_isStar_31 : decode cX10_isStar 31 = .ok (.iconst 0, 1) := by decide +kernel
theorem dX10_isStar_32 : decode cX10_isStar 32 = .ok (.ireturn, 1) := by decide +kernel
theorem dX10_areLike_0 : decode cX10_areLike 0 = .ok (.aload_n 0, 1) := by decide +kernel
theorem dX10_areLike_1 : decode cX10_areLike 1 = .ok (.getfield 50, 3) := by decide +kernel
theorem dX10_areLike_4 : decode cX10_areLike 4 = .ok (.iload_n 1, 1) := by decide +kernel
theorem dX10_areLike_5 : decode cX10_areLike 5 = .ok (.iaload, 1) := by decide +kernel
theorem dX10_areLike_6 : decode cX10_areLike 6 = .ok (.aload_n 0, 1) := by decide +kernel
theorem dX10_areLike_7 : decode cX10_areLike 7 = .ok (.getfield 50, 3) := by decide +kernel
theorem dX10_areLike_10 : decode cX10_areLike 10 = .ok (.iload_n 2, 1) := by decide +kernel
theorem dX10_areLike_11 : decode cX10_areLike 11 = .ok (.iaload, 1) := by decide +kernel
theorem dX10_areLike_12 : decode cX10_areLike 12 = .ok (.if_icmp .ne 7, 3) := by decide +kernel
theorem dX10_areLike_15 : decode cX10_areLike 15 = .ok (.iconst 1, 1) := by decide +kernel
theorem dX10_areLike_16 : decode cX10_areLike 16 = .ok (.goto 4, 3) := by decide +kernel
theorem dX10_areLike_19 : decode cX10_areLike 19 = .ok (.iconst 0, 1) := by decide +kernel
theorem dX10_areLike_20 : decode cX10_areLike 20 = .ok (.istore_n 3, 1) := by decide +kernel
theorem dX10_areLike_21 : decode cX10_areLike 21 = .ok (.iconst 0, 1) := by decide +kernel
theorem dX10_areLike_22 : decode cX10_areLike 22 = .ok (.istore 4, 2) := by decide +kernel
theorem dX10_areLike_24 : decode cX10_areLike 24 = .ok (.iload 4, 2) := by decide +kernel
theorem dX10_areLike_26 : decode cX10_areLike 26 = .ok (.aload_n 0, 1) := by decide +kernel
theorem dX10_areLike_27 : decode cX10_areLike 27 = .ok (.getfield 50, 3) := by decide +kernel
theorem dX10_areLike_30 : decode cX10_areLike 30 = .ok (.iload_n 1, 1) := by decide +kernel
theorem dX10_areLike_31 : decode cX10_areLike 31 = .ok (.iaload, 1) := by decide +kernel
theorem dX10_areLike_32 : decode cX10_areLike 32 = .ok (.if_icmp .ge 44, 3) := by decide +kernel
theorem dX10_areLike_35 : decode cX10_areLike 35 = .ok (.iload_n 3, 1) := by decide +kernel
theorem dX10_areLike_36 : decode cX10_areLike 36 = .ok (.ifCond .eq 32, 3) := by decide +kernel
theorem dX10_areLike_39 : decode cX10_areLike 39 = .ok (.aload_n 0, 1) := by decide +kernel
theorem dX10_areLike_40 : decode cX10_areLike 40 = .ok (.getfield 53, 3) := by decide +kernel
theorem dX10_areLike_43 : decode cX10_areLike 43 = .ok (.iconst 5, 1) := by decide +kernel
theorem dX10_areLike_44 : decode cX10_areLike 44 = .ok (.iload_n 1, 1) := by decide +kernel
theorem dX10_areLike_45 : decode cX10_areLike 45 = .ok (.imul, 1) := by decide +kernel
theorem dX10_areLike_46 : decode cX10_areLike 46 = .ok (.iload 4, 2) := by decide +kernel
theorem dX10_areLike_48 : decode cX10_areLike 48 = .ok (.iadd, 1) := by decide +kernel
theorem dX10_areLike_49 : decode cX10_areLike 49 = .ok (.iaload, 1) := by decide +kernel
theorem dX10_areLike_50 : decode cX10_areLike 50 = .ok (.aload_n 0, 1) := by decide +kernel
theorem dX10_areLike_51 : decode cX10_areLike 51 = .ok (.getfield 53, 3) := by decide +kernel
theorem dX10_areLike_54 : decode cX10_areLike 54 = .ok (.iconst 5, 1) := by decide +kernel
theorem dX10_areLike_55 : decode cX10_areLike 55 = .ok (.iload_n 2, 1) := by decide +kernel
theorem dX10_areLike_56 : decode cX10_areLike 56 = .ok (.imul, 1) := by decide +kernel
theorem dX10_areLike_57 : decode cX10_areLike 57 = .ok (.iload 4, 2) := by decide +kernel
theorem dX10_areLike_59 : decode cX10_areLike 59 = .ok (.iadd, 1) := by decide +kernel
theorem dX10_areLike_60 : decode cX10_areLike 60 = .ok (.iaload, 1) := by decide +kernel
theorem dX10_areLike_61 : decode cX10_areLike 61 = .ok (.if_icmp .ne 7, 3) := by decide +kernel
theorem dX10_areLike_64 : decode cX10_areLike 64 = .ok (.iconst 1, 1) := by decide +kernel
theorem dX10_areLike_65 : decode cX10_areLike 65 = .ok (.goto 4, 3) := by decide +kernel
theorem dX10_areLike_68 : decode cX10_areLike 68 = .ok (.iconst 0, 1) := by decide +kernel
theorem dX10_areLike_69 : decode cX10_areLike 69 = .ok (.istore_n 3, 1) := by decide +kernel
theorem dX10_areLike_70 : decode cX10_areLike 70 = .ok (.iinc 4 1, 3) := by decide +kernel
theorem dX10_areLike_73 : decode cX10_areLike 73 = .ok (.goto (-49), 3) := by decide +kernel
theorem dX10_areLike_76 : decode cX10_areLike 76 = .ok (.iload_n 3, 1) := by decide +kernel
theorem dX10_areLike_77 : decode cX10_areLike 77 = .ok (.ireturn, 1) := by decide +kernel
theorem dX10_takeStars_0 : decode cX10_takeStars 0 = .ok (.aload_n 0, 1) := by decide +kernel
theorem dX10_takeStars_1 : decode cX10_takeStars 1 = .ok (.invokevirtual 119, 3) := by decide +kernel
theorem dX10_takeStars_4 : decode cX10_takeStars 4 = .ok (.istore_n 2, 1) := by decide +kernel
theorem dX10_takeStars_5 : decode cX10_takeStars 5 = .ok (.aload_n 0, 1) := by decide +kernel
theorem dX10_takeStars_6 : decode cX10_takeStars 6 = .ok (.getfield 116, 3) := by decide +kernel
theorem dX10_takeStars_9 : decode cX10_takeStars 9 = .ok (.istore_n 3, 1) := by decide +kernel
theorem dX10_takeStars_10 : decode cX10_takeStars 10 = .ok (.iload_n 2, 1) := by decide +kernel
theorem dX10_takeStars_11 : decode cX10_takeStars 11 = .ok (.i2l, 1) := by decide +kernel
theorem dX10_takeStars_12 : decode cX10_takeStars 12 = .ok (.ldc2_w 144, 3) := by decide +kernel
theorem dX10_takeStars_15 : decode cX10_takeStars 15 = .ok (.ldc2_w 146, 3) := by decide +kernel
theorem dX10_takeStars_18 : decode cX10_takeStars 18 = .ok (.invokestatic 105, 3) := by decide +kernel
theorem dX10_takeStars_21 : decode cX10_takeStars 21 = .ok (.ifCond .ne 13, 3) := by decide +kernel
theorem dX10_takeStars_24 : decode cX10_takeStars 24 = .ok (.aload_n 0, 1) := by decide +kernel
theorem dX10_takeStars_25 : decode cX10_takeStars 25 = .ok (.iconst 1, 1) := by decide +kernel
theorem dX10_takeStars_26 : decode cX10_takeStars 26 = .ok (.aload_n 0, 1) := by decide +kernel
theorem dX10_takeStars_27 : decode cX10_takeStars 27 = .ok (.getfield 116, 3) := by decide +kernel
theorem dX10_takeStars_30 : decode cX10_takeStars 30 = .ok (.invokevirtual 127, 3) := by decide +kernel
theorem dX10_takeStars_33 : decode cX10_takeStars 33 = .ok (.ireturn, 1) := by decide +kernel
theorem dX10_takeStars_34 : decode cX10_takeStars 34 = .ok (.aload_n 0, 1) := by decide +kernel
theorem dX10_takeStars_35 : decode cX10_takeStars 35 = .ok (.getfield 50, 3) := by decide +kernel
theorem dX10_takeStars_38 : decode cX10_takeStars 38 = .ok (.iload_n 1, 1) := by decide +kernel
theorem dX10_takeStars_39 : decode cX10_takeStars 39 = .ok (.iconst 0, 1) := by decide +kernel
theorem dX10_takeStars_40 : decode cX10_takeStars 40 = .ok (.iastore, 1) := by decide +kernel
theorem dX10_takeStars_41 : decode cX10_takeStars 41 = .ok (.aload_n 0, 1) := by decide +kernel
theorem dX10_takeStars_42 : decode cX10_takeStars 42 = .ok (.aload_n 0, 1) := by decide +kernel
theorem dX10_takeStars_43 : decode cX10_takeStars 43 = .ok (.getfield 116, 3) := by decide +kernel
theorem dX10_takeStars_46 : decode cX10_takeStars 46 = .ok (.invokevirtual 148, 3) := by decide +kernel
theorem dX10_takeStars_49 : decode cX10_takeStars 49 = .ok (.ifCond .eq 75, 3) := by decide +kernel
theorem dX10_takeStars_52 : decode cX10_takeStars 52 = .ok (.aload_n 0, 1) := by decide +kernel
theorem dX10_takeStars_53 : decode cX10_takeStars 53 = .ok (.getfield 50, 3) := by decide +kernel
theorem dX10_takeStars_56 : decode cX10_takeStars 56 = .ok (.iload_n 1, 1) := by decide +kernel
theorem dX10_takeStars_57 : decode cX10_takeStars 57 = .ok (.iaload, 1) := by decide +kernel
theorem dX10_takeStars_58 : decode cX10_takeStars 58 = .ok (.iconst 5, 1) := by decide +kernel
theorem dX10_takeStars_59 : decode cX10_takeStars 59 = .ok (.if_icmp .ne 13, 3) := by decide +kernel
theorem dX10_takeStars_62 : decode cX10_takeStars 62 = .ok (.aload_n 0, 1) := by decide +kernel
theorem dX10_takeStars_63 : decode cX10_takeStars 63 = .ok (.iconst 1, 1) := by decide +kernel
theorem dX10_takeStars_64 : decode cX10_takeStars 64 = .ok (.aload_n 0, 1) := by decide +kernel
theorem dX10_takeStars_65 : decode cX10_takeStars 65 = .ok (.getfield 116, 3) := by decide +kernel
theorem dX10_takeStars_68 : decode cX10_takeStars 68 = .ok (.invokevirtual 127, 3) := by decide +kernel
theorem dX10_takeStars_71 : decode cX10_takeStars 71 = .ok (.ireturn, 1) := by decide +kernel
theorem dX10_takeStars_72 : decode cX10_takeStars 72 = .ok (.aload_n 0, 1) := by decide +kernel
theorem dX10_takeStars_73 : decode cX10_takeStars 73 = .ok (.getfield 53, 3) := by decide +kernel
end
section
theorem dX10_takeStars_76 : decode cX10_takeStars 76 = .ok (.iconst 5, 1) := by decide +kernel
theorem dX10_takeStars_77 : decode cX10_takeStars 77 = .ok (.iload_n 1, 1) := by decide +kernel
theorem dX10_takeStars_78 : decode cX10_takeStars 78 = .ok (.imul, 1) := by decide +kernel
theorem dX10_takeStars_79 : decode cX10_takeStars 79 = .ok (.aload_n 0, 1) := by decide +kernel
theorem dX10_takeStars_80 : decode cX10_takeStars 80 = .ok (.getfield 50, 3) := by decide +kernel
theorem dX10_takeStars_83 : decode cX10_takeStars 83 = .ok (.iload_n 1, 1) := by decide +kernel
theorem dX10_takeStars_84 : decode cX10_takeStars 84 = .ok (.iaload, 1) := by decide +kernel
theorem dX10_takeStars_85 : decode cX10_takeStars 85 = .ok (.iadd, 1) := by decide +kernel
theorem dX10_takeStars_86 : decode cX10_takeStars 86 = .ok (.aload_n 0, 1) := by decide +kernel
theorem dX10_takeStars_87 : decode cX10_takeStars 87 = .ok (.getfield 32, 3) := by decide +kernel
theorem dX10_takeStars_90 : decode cX10_takeStars 90 = .ok (.aload_n 0, 1) := by decide +kernel
theorem dX10_takeStars_91 : decode cX10_takeStars 91 = .ok (.getfield 116, 3) := by decide +kernel
theorem dX10_takeStars_94 : decode cX10_takeStars 94 = .ok (.iaload, 1) := by decide +kernel
theorem dX10_takeStars_95 : decode cX10_takeStars 95 = .ok (.bipush 97, 2) := by decide +kernel
theorem dX10_takeStars_97 : decode cX10_takeStars 97 = .ok (.isub, 1) := by decide +kernel
theorem dX10_takeStars_98 : decode cX10_takeStars 98 = .ok (.iconst 1, 1) := by decide +kernel
theorem dX10_takeStars_99 : decode cX10_takeStars 99 = .ok (.iadd, 1) := by decide +kernel
theorem dX10_takeStars_100 : decode cX10_takeStars 100 = .ok (.iastore, 1) := by decide +kernel
theorem dX10_takeStars_101 : decode cX10_takeStars 101 = .ok (.aload_n 0, 1) := by decide +kernel
theorem dX10_takeStars_102 : decode cX10_takeStars 102 = .ok (.getfield 50, 3) := by decide +kernel
theorem dX10_takeStars_105 : decode cX10_takeStars 105 = .ok (.iload_n 1, 1) := by decide +kernel
theorem dX10_takeStars_106 : decode cX10_takeStars 106 = .ok (.dup2, 1) := by decide +kernel
theorem dX10_takeStars_107 : decode cX10_takeStars 107 = .ok (.iaload, 1) := by decide +kernel
theorem dX10_takeStars_108 : decode cX10_takeStars 108 = .ok (.iconst 1, 1) := by decide +kernel
theorem dX10_takeStars_109 : decode cX10_takeStars 109 = .ok (.iadd, 1) := by decide +kernel
theorem dX10_takeStars_110 : decode cX10_takeStars 110 = .ok (.iastore, 1) := by decide +kernel
theorem dX10_takeStars_111 : decode cX10_takeStars 111 = .ok (.aload_n 0, 1) := by decide +kernel
theorem dX10_takeStars_112 : decode cX10_takeStars 112 = .ok (.dup, 1) := by decide +kernel
theorem dX10_takeStars_113 : decode cX10_takeStars 113 = .ok (.getfield 116, 3) := by decide +kernel
theorem dX10_takeStars_116 : decode cX10_takeStars 116 = .ok (.iconst 1, 1) := by decide +kernel
theorem dX10_takeStars_117 : decode cX10_takeStars 117 = .ok (.iadd, 1) := by decide +kernel
theorem dX10_takeStars_118 : decode cX10_takeStars 118 = .ok (.putfield 116, 3) := by decide +kernel
theorem dX10_takeStars_121 : decode cX10_takeStars 121 = .ok (.goto (-80), 3) := by decide +kernel
theorem dX10_takeStars_124 : decode cX10_takeStars 124 = .ok (.iconst 0, 1) := by decide +kernel
theorem dX10_takeStars_125 : decode cX10_takeStars 125 = .ok (.istore 4, 2) := by decide +kernel
theorem dX10_takeStars_127 : decode cX10_takeStars 127 = .ok (.iconst 0, 1) := by decide +kernel
theorem dX10_takeStars_128 : decode cX10_takeStars 128 = .ok (.istore 5, 2) := by decide +kernel
theorem dX10_takeStars_130 : decode cX10_takeStars 130 = .ok (.iload 5, 2) := by decide +kernel
theorem dX10_takeStars_132 : decode cX10_takeStars 132 = .ok (.iload_n 1, 1) := by decide +kernel
theorem dX10_takeStars_133 : decode cX10_takeStars 133 = .ok (.if_icmp .ge 36, 3) := by decide +kernel
theorem dX10_takeStars_136 : decode cX10_takeStars 136 = .ok (.iload 4, 2) := by decide +kernel
theorem dX10_takeStars_138 : decode cX10_takeStars 138 = .ok (.ifCond .ne 31, 3) := by decide +kernel
theorem dX10_takeStars_141 : decode cX10_takeStars 141 = .ok (.aload_n 0, 1) := by decide +kernel
theorem dX10_takeStars_142 : decode cX10_takeStars 142 = .ok (.iload_n 1, 1) := by decide +kernel
theorem dX10_takeStars_143 : decode cX10_takeStars 143 = .ok (.iload 5, 2) := by decide +kernel
theorem dX10_takeStars_145 : decode cX10_takeStars 145 = .ok (.invokevirtual 152, 3) := by decide +kernel
theorem dX10_takeStars_148 : decode cX10_takeStars 148 = .ok (.ifCond .eq 12, 3) := by decide +kernel
theorem dX10_takeStars_151 : decode cX10_takeStars 151 = .ok (.aload_n 0, 1) := by decide +kernel
theorem dX10_takeStars_152 : decode cX10_takeStars 152 = .ok (.iconst 4, 1) := by decide +kernel
theorem dX10_takeStars_153 : decode cX10_takeStars 153 = .ok (.iload_n 3, 1) := by decide +kernel
theorem dX10_takeStars_154 : decode cX10_takeStars 154 = .ok (.invokevirtual 127, 3) := by decide +kernel
theorem dX10_takeStars_157 : decode cX10_takeStars 157 = .ok (.goto 4, 3) := by decide +kernel
theorem dX10_takeStars_160 : decode cX10_takeStars 160 = .ok (.iconst 0, 1) := by decide +kernel
theorem dX10_takeStars_161 : decode cX10_takeStars 161 = .ok (.istore 4, 2) := by decide +kernel
theorem dX10_takeStars_163 : decode cX10_takeStars 163 = .ok (.iinc 5 1, 3) := by decide +kernel
theorem dX10_takeStars_166 : decode cX10_takeStars 166 = .ok (.goto (-36), 3) := by decide +kernel
theorem dX10_takeStars_169 : decode cX10_takeStars 169 = .ok (.iload 4, 2) := by decide +kernel
theorem dX10_takeStars_171 : decode cX10_takeStars 171 = .ok (.ireturn, 1) := by decide +kernel
theorem dX10_takeHouse_0 : decode cX10_takeHouse 0 = .ok (.aload_n 0, 1) := by decide +kernel
theorem dX10_takeHouse_1 : decode cX10_takeHouse 1 = .ok (.getfield 156, 3) := by decide +kernel
theorem dX10_takeHouse_4 : decode cX10_takeHouse 4 = .ok (.istore_n 1, 1) := by decide +kernel
theorem dX10_takeHouse_5 : decode cX10_takeHouse 5 = .ok (.aload_n 0, 1) := by decide +kernel
theorem dX10_takeHouse_6 : decode cX10_takeHouse 6 = .ok (.dup, 1) := by decide +kernel
theorem dX10_takeHouse_7 : decode cX10_takeHouse 7 = .ok (.getfield 156, 3) := by decide +kernel
theorem dX10_takeHouse_10 : decode cX10_takeHouse 10 = .ok (.iconst 1, 1) := by decide +kernel
theorem dX10_takeHouse_11 : decode cX10_takeHouse 11 = .ok (.iadd, 1) := by decide +kernel
theorem dX10_takeHouse_12 : decode cX10_takeHouse 12 = .ok (.putfield 156, 3) := by decide +kernel
theorem dX10_takeHouse_15 : decode cX10_takeHouse 15 = .ok (.aload_n 0, 1) := by decide +kernel
theorem dX10_takeHouse_16 : decode cX10_takeHouse 16 = .ok (.iload_n 1, 1) := by decide +kernel
theorem dX10_takeHouse_17 : decode cX10_takeHouse 17 = .ok (.invokevirtual 159, 3) := by decide +kernel
theorem dX10_takeHouse_20 : decode cX10_takeHouse 20 = .ok (.istore_n 2, 1) := by decide +kernel
theorem dX10_takeHouse_21 : decode cX10_takeHouse 21 = .ok (.iload_n 2, 1) := by decide +kernel
theorem dX10_takeHouse_22 : decode cX10_takeHouse 22 = .ok (.ifCond .le 7, 3) := by decide +kernel
theorem dX10_takeHouse_25 : decode cX10_takeHouse 25 = .ok (.iload_n 2, 1) := by decide +kernel
theorem dX10_takeHouse_26 : decode cX10_takeHouse 26 = .ok (.goto 15, 3) := by decide +kernel
theorem dX10_takeHouse_29 : decode cX10_takeHouse 29 = .ok (.aload_n 0, 1) := by decide +kernel
theorem dX10_takeHouse_30 : decode cX10_takeHouse 30 = .ok (.aload_n 0, 1) := by decide +kernel
theorem dX10_takeHouse_31 : decode cX10_takeHouse 31 = .ok (.getfield 44, 3) := by decide +kernel
theorem dX10_takeHouse_34 : decode cX10_takeHouse 34 = .ok (.iload_n 1, 1) := by decide +kernel
theorem dX10_takeHouse_35 : decode cX10_takeHouse 35 = .ok (.iconst 1, 1) := by decide +kernel
theorem dX10_takeHouse_36 : decode cX10_takeHouse 36 = .ok (.bipush 9, 2) := by decide +kernel
theorem dX10_takeHouse_38 : decode cX10_takeHouse 38 = .ok (.invokevirtual 140, 3) := by decide +kernel
theorem dX10_takeHouse_41 : decode cX10_takeHouse 41 = .ok (.istore_n 2, 1) := by decide +kernel
theorem dX10_takeHouse_42 : decode cX10_takeHouse 42 = .ok (.iload_n 2, 1) := by decide +kernel
theorem dX10_takeHouse_43 : decode cX10_takeHouse 43 = .ok (.ifCond .le 7, 3) := by decide +kernel
theorem dX10_takeHouse_46 : decode cX10_takeHouse 46 = .ok (.iload_n 2, 1) := by decide +kernel
theorem dX10_takeHouse_47 : decode cX10_takeHouse 47 = .ok (.goto 15, 3) := by decide +kernel
theorem dX10_takeHouse_50 : decode cX10_takeHouse 50 = .ok (.aload_n 0, 1) := by decide +kernel
theorem dX10_takeHouse_51 : decode cX10_takeHouse 51 = .ok (.aload_n 0, 1) := by decide +kernel
theorem dX10_takeHouse_52 : decode cX10_takeHouse 52 = .ok (.getfield 47, 3) := by decide +kernel
theorem dX10_takeHouse_55 : decode cX10_takeHouse 55 = .ok (.iload_n 1, 1) := by decide +kernel
theorem dX10_takeHouse_56 : decode cX10_takeHouse 56 = .ok (.iconst 0, 1) := by decide +kernel
theorem dX10_takeHouse_57 : decode cX10_takeHouse 57 = .ok (.bipush 9, 2) := by decide +kernel
theorem dX10_takeHouse_59 : decode cX10_takeHouse 59 = .ok (.invokevirtual 140, 3) := by decide +kernel
theorem dX10_takeHouse_62 : decode cX10_takeHouse 62 = .ok (.istore_n 2, 1) := by decide +kernel
theorem dX10_takeHouse_63 : decode cX10_takeHouse 63 = .ok (.iload_n 2, 1) := by decide +kernel
theorem dX10_takeHouse_64 : decode cX10_takeHouse 64 = .ok (.ifCond .le 7, 3) := by decide +kernel
theorem dX10_takeHouse_67 : decode cX10_takeHouse 67 = .ok (.iload_n 2, 1) := by decide +kernel
theorem dX10_takeHouse_68 : decode cX10_takeHouse 68 = .ok (.goto 8, 3) := by decide +kernel
theorem dX10_takeHouse_71 : decode cX10_takeHouse 71 = .ok (.aload_n 0, 1) := by decide +kernel
theorem dX10_takeHouse_72 : decode cX10_takeHouse 72 = .ok (.iload_n 1, 1) := by decide +kernel
theorem dX10_takeHouse_73 : decode cX10_takeHouse 73 = .ok (.invokevirtual 163, 3) := by decide +kernel
theorem dX10_takeHouse_76 : decode cX10_takeHouse 76 = .ok (.ireturn, 1) := by decide +kernel
theorem dX10_takeClause_0 : decode cX10_takeClause 0 = .ok (.aload_n 0, 1) := by decide +kernel
theorem dX10_takeClause_1 : decode cX10_takeClause 1 = .ok (.invokevirtual 119, 3) := by decide +kernel
theorem dX10_takeClause_4 : decode cX10_takeClause 4 = .ok (.istore_n 1, 1) := by decide +kernel
theorem dX10_takeClause_5 : decode cX10_takeClause 5 = .ok (.iload_n 1, 1) := by decide +kernel
theorem dX10_takeClause_6 : decode cX10_takeClause 6 = .ok (.bipush 98, 2) := by decide +kernel
theorem dX10_takeClause_8 : decode cX10_takeClause 8 = .ok (.if_icmp .ne 7, 3) := by decide +kernel
theorem dX10_takeClause_11 : decode cX10_takeClause 11 = .ok (.iconst 0, 1) := by decide +kernel
theorem dX10_takeClause_12 : decode cX10_takeClause 12 = .ok (.goto 34, 3) := by decide +kernel
theorem dX10_takeClause_15 : decode cX10_takeClause 15 = .ok (.iload_n 1, 1) := by decide +kernel
theorem dX10_takeClause_16 : decode cX10_takeClause 16 = .ok (.bipush 104, 2) := by decide +kernel
theorem dX10_takeClause_18 : decode cX10_takeClause 18 = .ok (.if_icmp .ne 7, 3) := by decide +kernel
theorem dX10_takeClause_21 : decode cX10_takeClause 21 = .ok (.iconst 1, 1) := by decide +kernel
theorem dX10_takeClause_22 : decode cX10_takeClause 22 = .ok (.goto 24, 3) := by decide +kernel
theorem dX10_takeClause_25 : decode cX10_takeClause 25 = .ok (.iload_n 1, 1) := by decide +kernel
theorem dX10_takeClause_26 : decode cX10_takeClause 26 = .ok (.bipush 109, 2) := by decide +kernel
theorem dX10_takeClause_28 : decode cX10_takeClause 28 = .ok (.if_icmp .ne 7, 3) := by decide +kernel
theorem dX10_takeClause_31 : decode cX10_takeClause 31 = .ok (.iconst 2, 1) := by decide +kernel
theorem dX10_takeClause_32 : decode cX10_takeClause 32 = .ok (.goto 14, 3) := by decide +kernel
theorem dX10_takeClause_35 : decode cX10_takeClause 35 = .ok (.iload_n 1, 1) := by decide +kernel
theorem dX10_takeClause_36 : decode cX10_takeClause 36 = .ok (.bipush 103, 2) := by decide +kernel
theorem dX10_takeClause_38 : decode cX10_takeClause 38 = .ok (.if_icmp .ne 7, 3) := by decide +kernel
theorem dX10_takeClause_41 : decode cX10_takeClause 41 = .ok (.iconst 3, 1) := by decide +kernel
theorem dX10_takeClause_42 : decode cX10_takeClause 42 = .ok (.goto 4, 3) := by decide +kernel
theorem dX10_takeClause_45 : decode cX10_takeClause 45 = .ok (.iconst (-1), 1) := by decide +kernel
theorem dX10_takeClause_46 : decode cX10_takeClause 46 = .ok (.istore_n 2, 1) := by decide +kernel
theorem dX10_takeClause_47 : decode cX10_takeClause 47 = .ok (.iload_n 2, 1) := by decide +kernel
theorem dX10_takeClause_48 : decode cX10_takeClause 48 = .ok (.ifCond .lt 16, 3) := by decide +kernel
theorem dX10_takeClause_51 : decode cX10_takeClause 51 = .ok (.iload_n 2, 1) := by decide +kernel
theorem dX10_takeClause_52 : decode cX10_takeClause 52 = .ok (.ifCond .le 22, 3) := by decide +kernel
theorem dX10_takeClause_55 : decode cX10_takeClause 55 = .ok (.aload_n 0, 1) := by decide +kernel
theorem dX10_takeClause_56 : decode cX10_takeClause 56 = .ok (.getfield 38, 3) := by decide +kernel
theorem dX10_takeClause_59 : decode cX10_takeClause 59 = .ok (.iconst 0, 1) := by decide +kernel
theorem dX10_takeClause_60 : decode cX10_takeClause 60 = .ok (.iaload, 1) := by decide +kernel
theorem dX10_takeClause_61 : decode cX10_takeClause 61 = .ok (.ifCond .ne 13, 3) := by decide +kernel
theorem dX10_takeClause_64 : decode cX10_takeClause 64 = .ok (.aload_n 0, 1) := by decide +kernel
theorem dX10_takeClause_65 : decode cX10_takeClause 65 = .ok (.iconst 1, 1) := by decide +kernel
theorem dX10_takeClause_66 : decode cX10_takeClause 66 = .ok (.aload_n 0, 1) := by decide +kernel
theorem dX10_takeClause_67 : decode cX10_takeClause 67 = .ok (.getfield 116, 3) := by decide +kernel
theorem dX10_takeClause_70 : decode cX10_takeClause 70 = .ok (.invokevirtual 127, 3) := by decide +kernel
theorem dX10_takeClause_73 : decode cX10_takeClause 73 = .ok (.ireturn, 1) := by decide +kernel
theorem dX10_takeClause_74 : decode cX10_takeClause 74 = .ok (.iload_n 2, 1) := by decide +kernel
theorem dX10_takeClause_75 : decode cX10_takeClause 75 = .ok (.ifCond .ne 20, 3) := by decide +kernel
theorem dX10_takeClause_78 : decode cX10_takeClause 78 = .ok (.aload_n 0, 1) := by decide +kernel
theorem dX10_takeClause_79 : decode cX10_takeClause 79 = .ok (.getfield 38, 3) := by decide +kernel
theorem dX10_takeClause_82 : decode cX10_takeClause 82 = .ok (.iconst 0, 1) := by decide +kernel
theorem dX10_takeClause_83 : decode cX10_takeClause 83 = .ok (.iaload, 1) := by decide +kernel
theorem dX10_takeClause_84 : decode cX10_takeClause 84 = .ok (.ifCond .le 7, 3) := by decide +kernel
theorem dX10_takeClause_87 : decode cX10_takeClause 87 = .ok (.iconst 1, 1) := by decide +kernel
theorem dX10_takeClause_88 : decode cX10_takeClause 88 = .ok (.goto 45, 3) := by decide +kernel
theorem dX10_takeClause_91 : decode cX10_takeClause 91 = .ok (.iconst 0, 1) := by decide +kernel
theorem dX10_takeClause_92 : decode cX10_takeClause 92 = .ok (.goto 41, 3) := by decide +kernel
theorem dX10_takeClause_95 : decode cX10_takeClause 95 = .ok (.iload_n 2, 1) := by decide +kernel
theorem dX10_takeClause_96 : decode cX10_takeClause 96 = .ok (.iconst 1, 1) := by decide +kernel
theorem dX10_takeClause_97 : decode cX10_takeClause 97 = .ok (.if_icmp .ne 20, 3) := by decide +kernel
theorem dX10_takeClause_100 : decode cX10_takeClause 100 = .ok (.aload_n 0, 1) := by decide +kernel
theorem dX10_takeClause_101 : decode cX10_takeClause 101 = .ok (.getfield 156, 3) := by decide +kernel
theorem dX10_takeClause_104 : decode cX10_takeClause 104 = .ok (.bipush 8, 2) := by decide +kernel
theorem dX10_takeClause_106 : decode cX10_takeClause 106 = .ok (.if_icmp .ne 7, 3) := by decide +kernel
theorem dX10_takeClause_109 : decode cX10_takeClause 109 = .ok (.iconst 1, 1) := by decide +kernel
theorem dX10_takeClause_110 : decode cX10_takeClause 110 = .ok (.goto 23, 3) := by decide +kernel
theorem dX10_takeClause_113 : decode cX10_takeClause 113 = .ok (.iconst 0, 1) := by decide +kernel
theorem dX10_takeClause_114 : decode cX10_takeClause 114 = .ok (.goto 19, 3) := by decide +kernel
theorem dX10_takeClause_117 : decode cX10_takeClause 117 = .ok (.iload_n 2, 1) := by decide +kernel
theorem dX10_takeClause_118 : decode cX10_takeClause 118 = .ok (.iconst 2, 1) := by decide +kernel
theorem dX10_takeClause_119 : decode cX10_takeClause 119 = .ok (.if_icmp .ne 10, 3) := by decide +kernel
theorem dX10_takeClause_122 : decode cX10_takeClause 122 = .ok (.aload_n 0, 1) := by decide +kernel
theorem dX10_takeClause_123 : decode cX10_takeClause 123 = .ok (.getfield 166, 3) := by decide +kernel
theorem dX10_takeClause_126 : decode cX10_takeClause 126 = .ok (.goto 7, 3) := by decide +kernel
theorem dX10_takeClause_129 : decode cX10_takeClause 129 = .ok (.aload_n 0, 1) := by decide +kernel
theorem dX10_takeClause_130 : decode cX10_takeClause 130 = .ok (.getfield 170, 3) := by decide +kernel
theorem dX10_takeClause_133 : decode cX10_takeClause 133 = .ok (.istore_n 3, 1) := by decide +kernel
theorem dX10_takeClause_134 : decode cX10_takeClause 134 = .ok (.iload_n 3, 1) := by decide +kernel
theorem dX10_takeClause_135 : decode cX10_takeClause 135 = .ok (.ifCond .eq 13, 3) := by decide +kernel
theorem dX10_takeClause_138 : decode cX10_takeClause 138 = .ok (.aload_n 0, 1) := by decide +kernel
theorem dX10_takeClause_139 : decode cX10_takeClause 139 = .ok (.iconst 3, 1) := by decide +kernel
theorem dX10_takeClause_140 : decode cX10_takeClause 140 = .ok (.aload_n 0, 1) := by decide +kernel
theorem dX10_takeClause_141 : decode cX10_takeClause 141 = .ok (.getfield 116, 3) := by decide +kernel
theorem dX10_takeClause_144 : decode cX10_takeClause 144 = .ok (.invokevirtual 127, 3) := by decide +kernel
theorem dX10_takeClause_147 : decode cX10_takeClause 147 = .ok (.ireturn, 1) := by decide +kernel
theorem dX10_takeClause_148 : decode cX10_takeClause 148 = .ok (.aload_n 0, 1) := by decide +kernel
theorem dX10_takeClause_149 : decode cX10_takeClause 149 = .ok (.dup, 1) := by decide +kernel
theorem dX10_takeClause_150 : decode cX10_takeClause 150 = .ok (.getfield 116, 3) := by decide +kernel
theorem dX10_takeClause_153 : decode cX10_takeClause 153 = .ok (.iconst 1, 1) := by decide +kernel
theorem dX10_takeClause_154 : decode cX10_takeClause 154 = .ok (.iadd, 1) := by decide +kernel
theorem dX10_takeClause_155 : decode cX10_takeClause 155 = .ok (.putfield 116, 3) := by decide +kernel
theorem dX10_takeClause_158 : decode cX10_takeClause 158 = .ok (.aload_n 0, 1) := by decide +kernel
theorem dX10_takeClause_159 : decode cX10_takeClause 159 = .ok (.aload_n 0, 1) := by decide +kernel
theorem dX10_takeClause_160 : decode cX10_takeClause 160 = .ok (.getfield 166, 3) := by decide +kernel
theorem dX10_takeClause_163 : decode cX10_takeClause 163 = .ok (.ifCond .ne 8, 3) := by decide +kernel
theorem dX10_takeClause_166 : decode cX10_takeClause 166 = .ok (.iload_n 2, 1) := by decide +kernel
theorem dX10_takeClause_167 : decode cX10_takeClause 167 = .ok (.iconst 2, 1) := by decide +kernel
theorem dX10_takeClause_168 : decode cX10_takeClause 168 = .ok (.if_icmp .ne 7, 3) := by decide +kernel
theorem dX10_takeClause_171 : decode cX10_takeClause 171 = .ok (.iconst 1, 1) := by decide +kernel
theorem dX10_takeClause_172 : decode cX10_takeClause 172 = .ok (.goto 4, 3) := by decide +kernel
theorem dX10_takeClause_175 : decode cX10_takeClause 175 = .ok (.iconst 0, 1) := by decide +kernel
theorem dX10_takeClause_176 : decode cX10_takeClause 176 = .ok (.putfield 166, 3) := by decide +kernel
theorem dX10_takeClause_179 : decode cX10_takeClause 179 = .ok (.aload_n 0, 1) := by decide +kernel
theorem dX10_takeClause_180 : decode cX10_takeClause 180 = .ok (.aload_n 0, 1) := by decide +kernel
theorem dX10_takeClause_181 : decode cX10_takeClause 181 = .ok (.getfield 170, 3) := by decide +kernel
theorem dX10_takeClause_184 : decode cX10_takeClause 184 = .ok (.ifCond .ne 8, 3) := by decide +kernel
theorem dX10_takeClause_187 : decode cX10_takeClause 187 = .ok (.iload_n 2, 1) := by decide +kernel
theorem dX10_takeClause_188 : decode cX10_takeClause 188 = .ok (.iconst 3, 1) := by decide +kernel
theorem dX10_takeClause_189 : decode cX10_takeClause 189 = .ok (.if_icmp .ne 7, 3) := by decide +kernel
theorem dX10_takeClause_192 : decode cX10_takeClause 192 = .ok (.iconst 1, 1) := by decide +kernel
theorem dX10_takeClause_193 : decode cX10_takeClause 193 = .ok (.goto 4, 3) := by decide +kernel
theorem dX10_takeClause_196 : decode cX10_takeClause 196 = .ok (.iconst 0, 1) := by decide +kernel
theorem dX10_takeClause_197 : decode cX10_takeClause 197 = .ok (.putfield 170, 3) := by decide +kernel
theorem dX10_takeClause_200 : decode cX10_takeClause 200 = .ok (.iload_n 2, 1) := by decide +kernel
theorem dX10_takeClause_201 : decode cX10_takeClause 201 = .ok (.ifCond .ne 10, 3) := by decide +kernel
theorem dX10_takeClause_204 : decode cX10_takeClause 204 = .ok (.aload_n 0, 1) := by decide +kernel
theorem dX10_takeClause_205 : decode cX10_takeClause 205 = .ok (.invokevirtual 173, 3) := by decide +kernel
theorem dX10_takeClause_208 : decode cX10_takeClause 208 = .ok (.goto 47, 3) := by decide +kernel
theorem dX10_takeClause_211 : decode cX10_takeClause 211 = .ok (.iload_n 2, 1) := by decide +kernel
theorem dX10_takeClause_212 : decode cX10_takeClause 212 = .ok (.iconst 1, 1) := by decide +kernel
theorem dX10_takeClause_213 : decode cX10_takeClause 213 = .ok (.if_icmp .ne 10, 3) := by decide +kernel
theorem dX10_takeClause_216 : decode cX10_takeClause 216 = .ok (.aload_n 0, 1) := by decide +kernel
theorem dX10_takeClause_217 : decode cX10_takeClause 217 = .ok (.invokevirtual 176, 3) := by decide +kernel
theorem dX10_takeClause_220 : decode cX10_takeClause 220 = .ok (.goto 35, 3) := by decide +kernel
theorem dX10_takeClause_223 : decode cX10_takeClause 223 = .ok (.iload_n 2, 1) := by decide +kernel
theorem dX10_takeClause_224 : decode cX10_takeClause 224 = .ok (.iconst 2, 1) := by decide +kernel
theorem dX10_takeClause_225 : decode cX10_takeClause 225 = .ok (.if_icmp .ne 18, 3) := by decide +kernel
theorem dX10_takeClause_228 : decode cX10_takeClause 228 = .ok (.aload_n 0, 1) := by decide +kernel
theorem dX10_takeClause_229 : decode cX10_takeClause 229 = .ok (.aload_n 0, 1) := by decide +kernel
theorem dX10_takeClause_230 : decode cX10_takeClause 230 = .ok (.getfield 56, 3) := by decide +kernel
theorem dX10_takeClause_233 : decode cX10_takeClause 233 = .ok (.iconst 0, 1) := by decide +kernel
theorem dX10_takeClause_234 : decode cX10_takeClause 234 = .ok (.iconst 0, 1) := by decide +kernel
theorem dX10_takeClause_235 : decode cX10_takeClause 235 = .ok (.bipush 9, 2) := by decide +kernel
theorem dX10_takeClause_237 : decode cX10_takeClause 237 = .ok (.invokevirtual 140, 3) := by decide +kernel
theorem dX10_takeClause_240 : decode cX10_takeClause 240 = .ok (.goto 15, 3) := by decide +kernel
theorem dX10_takeClause_243 : decode cX10_takeClause 243 = .ok (.aload_n 0, 1) := by decide +kernel
theorem dX10_takeClause_244 : decode cX10_takeClause 244 = .ok (.aload_n 0, 1) := by decide +kernel
theorem dX10_takeClause_245 : decode cX10_takeClause 245 = .ok (.getfield 59, 3) := by decide +kernel
theorem dX10_takeClause_248 : decode cX10_takeClause 248 = .ok (.iconst 0, 1) := by decide +kernel
theorem dX10_takeClause_249 : decode cX10_takeClause 249 = .ok (.iconst 0, 1) := by decide +kernel
theorem dX10_takeClause_250 : decode cX10_takeClause 250 = .ok (.bipush 100, 2) := by decide +kernel
theorem dX10_takeClause_252 : decode cX10_takeClause 252 = .ok (.invokevirtual 140, 3) := by decide +kernel
theorem dX10_takeClause_255 : decode cX10_takeClause 255 = .ok (.istore 4, 2) := by decide +kernel
theorem dX10_takeClause_257 : decode cX10_takeClause 257 = .ok (.iload 4, 2) := by decide +kernel
theorem dX10_takeClause_259 : decode cX10_takeClause 259 = .ok (.ifCond .ne 22, 3) := by decide +kernel
theorem dX10_takeClause_262 : decode cX10_takeClause 262 = .ok (.aload_n 0, 1) := by decide +kernel
theorem dX10_takeClause_263 : decode cX10_takeClause 263 = .ok (.invokevirtual 119, 3) := by decide +kernel
theorem dX10_takeClause_266 : decode cX10_takeClause 266 = .ok (.bipush 59, 2) := by decide +kernel
theorem dX10_takeClause_268 : decode cX10_takeClause 268 = .ok (.if_icmp .eq 13, 3) := by decide +kernel
theorem dX10_takeClause_271 : decode cX10_takeClause 271 = .ok (.aload_n 0, 1) := by decide +kernel
theorem dX10_takeClause_272 : decode cX10_takeClause 272 = .ok (.iconst 1, 1) := by decide +kernel
theorem dX10_takeClause_273 : decode cX10_takeClause 273 = .ok (.aload_n 0, 1) := by decide +kernel
theorem dX10_takeClause_274 : decode cX10_takeClause 274 = .ok (.getfield 116, 3) := by decide +kernel
theorem dX10_takeClause_277 : decode cX10_takeClause 277 = .ok (.invokevirtual 127, 3) := by decide +kernel
theorem dX10_takeClause_280 : decode cX10_takeClause 280 = .ok (.ireturn, 1) := by decide +kernel
theorem dX10_takeClause_281 : decode cX10_takeClause 281 = .ok (.aload_n 0, 1) := by decide +kernel
theorem dX10_takeClause_282 : decode cX10_takeClause 282 = .ok (.dup, 1) := by decide +kernel
theorem dX10_takeClause_283 : decode cX10_takeClause 283 = .ok (.getfield 116, 3) := by decide +kernel
theorem dX10_takeClause_286 : decode cX10_takeClause 286 = .ok (.iconst 1, 1) := by decide +kernel
theorem dX10_takeClause_287 : decode cX10_takeClause 287 = .ok (.iadd, 1) := by decide +kernel
theorem dX10_takeClause_288 : decode cX10_takeClause 288 = .ok (.putfield 116, 3) := by decide +kernel
theorem dX10_takeClause_291 : decode cX10_takeClause 291 = .ok (.iload 4, 2) := by decide +kernel
theorem dX10_takeClause_293 : decode cX10_takeClause 293 = .ok (.ireturn, 1) := by decide +kernel
theorem dX10_takeRead_0 : decode cX10_takeRead 0 = .ok (.aload_n 0, 1) := by decide +kernel
theorem dX10_takeRead_1 : decode cX10_takeRead 1 = .ok (.aload_n 0, 1) := by decide +kernel
theorem dX10_takeRead_2 : decode cX10_takeRead 2 = .ok (.getfield 38, 3) := by decide +kernel
theorem dX10_takeRead_5 : decode cX10_takeRead 5 = .ok (.iconst 0, 1) := by decide +kernel
theorem dX10_takeRead_6 : decode cX10_takeRead 6 = .ok (.iaload, 1) := by decide +kernel
theorem dX10_takeRead_7 : decode cX10_takeRead 7 = .ok (.putfield 99, 3) := by decide +kernel
theorem dX10_takeRead_10 : decode cX10_takeRead 10 = .ok (.aload_n 0, 1) := by decide +kernel
theorem dX10_takeRead_11 : decode cX10_takeRead 11 = .ok (.aload_n 0, 1) := by decide +kernel
theorem dX10_takeRead_12 : decode cX10_takeRead 12 = .ok (.getfield 156, 3) := by decide +kernel
theorem dX10_takeRead_15 : decode cX10_takeRead 15 = .ok (.putfield 102, 3) := by decide +kernel
theorem dX10_takeRead_18 : decode cX10_takeRead 18 = .ok (.aload_n 0, 1) := by decide +kernel
theorem dX10_takeRead_19 : decode cX10_takeRead 19 = .ok (.aload_n 0, 1) := by decide +kernel
theorem dX10_takeRead_20 : decode cX10_takeRead 20 = .ok (.getfield 166, 3) := by decide +kernel
theorem dX10_takeRead_23 : decode cX10_takeRead 23 = .ok (.ifCond .eq 12, 3) := by decide +kernel
theorem dX10_takeRead_26 : decode cX10_takeRead 26 = .ok (.aload_n 0, 1) := by decide +kernel
theorem dX10_takeRead_27 : decode cX10_takeRead 27 = .ok (.getfield 56, 3) := by decide +kernel
theorem dX10_takeRead_30 : decode cX10_takeRead 30 = .ok (.iconst 0, 1) := by decide +kernel
theorem dX10_takeRead_31 : decode cX10_takeRead 31 = .ok (.iaload, 1) := by decide +kernel
theorem dX10_takeRead_32 : decode cX10_takeRead 32 = .ok (.goto 4, 3) := by decide +kernel
theorem dX10_takeRead_35 : decode cX10_takeRead 35 = .ok (.iconst 2, 1) := by decide +kernel
theorem dX10_takeRead_36 : decode cX10_takeRead 36 = .ok (.putfield 22, 3) := by decide +kernel
theorem dX10_takeRead_39 : decode cX10_takeRead 39 = .ok (.aload_n 0, 1) := by decide +kernel
theorem dX10_takeRead_40 : decode cX10_takeRead 40 = .ok (.aload_n 0, 1) := by decide +kernel
theorem dX10_takeRead_41 : decode cX10_takeRead 41 = .ok (.getfield 170, 3) := by decide +kernel
theorem dX10_takeRead_44 : decode cX10_takeRead 44 = .ok (.ifCond .eq 12, 3) := by decide +kernel
theorem dX10_takeRead_47 : decode cX10_takeRead 47 = .ok (.aload_n 0, 1) := by decide +kernel
theorem dX10_takeRead_48 : decode cX10_takeRead 48 = .ok (.getfield 59, 3) := by decide +kernel
theorem dX10_takeRead_51 : decode cX10_takeRead 51 = .ok (.iconst 0, 1) := by decide +kernel
theorem dX10_takeRead_52 : decode cX10_takeRead 52 = .ok (.iaload, 1) := by decide +kernel
theorem dX10_takeRead_53 : decode cX10_takeRead 53 = .ok (.goto 5, 3) := by decide +kernel
theorem dX10_takeRead_56 : decode cX10_takeRead 56 = .ok (.bipush 10, 2) := by decide +kernel
theorem dX10_takeRead_58 : decode cX10_takeRead 58 = .ok (.putfield 26, 3) := by decide +kernel
theorem dX10_takeRead_61 : decode cX10_takeRead 61 = .ok (.iconst 0, 1) := by decide +kernel
theorem dX10_takeRead_62 : decode cX10_takeRead 62 = .ok (.istore_n 1, 1) := by decide +kernel
theorem dX10_takeRead_63 : decode cX10_takeRead 63 = .ok (.iload_n 1, 1) := by decide +kernel
theorem dX10_takeRead_64 : decode cX10_takeRead 64 = .ok (.bipush 43, 2) := by decide +kernel
theorem dX10_takeRead_66 : decode cX10_takeRead 66 = .ok (.if_icmp .ge 16, 3) := by decide +kernel
theorem dX10_takeRead_69 : decode cX10_takeRead 69 = .ok (.aload_n 0, 1) := by decide +kernel
theorem dX10_takeRead_70 : decode cX10_takeRead 70 = .ok (.getfield 29, 3) := by decide +kernel
theorem dX10_takeRead_73 : decode cX10_takeRead 73 = .ok (.iload_n 1, 1) := by decide +kernel
theorem dX10_takeRead_74 : decode cX10_takeRead 74 = .ok (.iconst 0, 1) := by decide +kernel
theorem dX10_takeRead_75 : decode cX10_takeRead 75 = .ok (.iastore, 1) := by decide +kernel
theorem dX10_takeRead_76 : decode cX10_takeRead 76 = .ok (.iinc 1 1, 3) := by decide +kernel
theorem dX10_takeRead_79 : decode cX10_takeRead 79 = .ok (.goto (-16), 3) := by decide +kernel
theorem dX10_takeRead_82 : decode cX10_takeRead 82 = .ok (.aload_n 0, 1) := by decide +kernel
theorem dX10_takeRead_83 : decode cX10_takeRead 83 = .ok (.getfield 29, 3) := by decide +kernel
theorem dX10_takeRead_86 : decode cX10_takeRead 86 = .ok (.iconst 0, 1) := by decide +kernel
theorem dX10_takeRead_87 : decode cX10_takeRead 87 = .ok (.aload_n 0, 1) := by decide +kernel
theorem dX10_takeRead_88 : decode cX10_takeRead 88 = .ok (.getfield 38, 3) := by decide +kernel
theorem dX10_takeRead_91 : decode cX10_takeRead 91 = .ok (.iconst 1, 1) := by decide +kernel
theorem dX10_takeRead_92 : decode cX10_takeRead 92 = .ok (.iaload, 1) := by decide +kernel
theorem dX10_takeRead_93 : decode cX10_takeRead 93 = .ok (.iastore, 1) := by decide +kernel
theorem dX10_takeRead_94 : decode cX10_takeRead 94 = .ok (.aload_n 0, 1) := by decide +kernel
theorem dX10_takeRead_95 : decode cX10_takeRead 95 = .ok (.getfield 29, 3) := by decide +kernel
theorem dX10_takeRead_98 : decode cX10_takeRead 98 = .ok (.iconst 1, 1) := by decide +kernel
theorem dX10_takeRead_99 : decode cX10_takeRead 99 = .ok (.aload_n 0, 1) := by decide +kernel
theorem dX10_takeRead_100 : decode cX10_takeRead 100 = .ok (.getfield 99, 3) := by decide +kernel
theorem dX10_takeRead_103 : decode cX10_takeRead 103 = .ok (.ifCond .ne 7, 3) := by decide +kernel
theorem dX10_takeRead_106 : decode cX10_takeRead 106 = .ok (.iconst 0, 1) := by decide +kernel
theorem dX10_takeRead_107 : decode cX10_takeRead 107 = .ok (.goto 11, 3) := by decide +kernel
theorem dX10_takeRead_110 : decode cX10_takeRead 110 = .ok (.aload_n 0, 1) := by decide +kernel
theorem dX10_takeRead_111 : decode cX10_takeRead 111 = .ok (.getfield 38, 3) := by decide +kernel
theorem dX10_takeRead_114 : decode cX10_takeRead 114 = .ok (.iconst 2, 1) := by decide +kernel
theorem dX10_takeRead_115 : decode cX10_takeRead 115 = .ok (.iaload, 1) := by decide +kernel
theorem dX10_takeRead_116 : decode cX10_takeRead 116 = .ok (.iconst 5, 1) := by decide +kernel
theorem dX10_takeRead_117 : decode cX10_takeRead 117 = .ok (.isub, 1) := by decide +kernel
theorem dX10_takeRead_118 : decode cX10_takeRead 118 = .ok (.iastore, 1) := by decide +kernel
theorem dX10_takeRead_119 : decode cX10_takeRead 119 = .ok (.iconst 0, 1) := by decide +kernel
theorem dX10_takeRead_120 : decode cX10_takeRead 120 = .ok (.istore_n 1, 1) := by decide +kernel
theorem dX10_takeRead_121 : decode cX10_takeRead 121 = .ok (.iload_n 1, 1) := by decide +kernel
theorem dX10_takeRead_122 : decode cX10_takeRead 122 = .ok (.bipush 8, 2) := by decide +kernel
theorem dX10_takeRead_124 : decode cX10_takeRead 124 = .ok (.if_icmp .ge 55, 3) := by decide +kernel
theorem dX10_takeRead_127 : decode cX10_takeRead 127 = .ok (.aload_n 0, 1) := by decide +kernel
theorem dX10_takeRead_128 : decode cX10_takeRead 128 = .ok (.getfield 29, 3) := by decide +kernel
theorem dX10_takeRead_131 : decode cX10_takeRead 131 = .ok (.iconst 3, 1) := by decide +kernel
theorem dX10_takeRead_132 : decode cX10_takeRead 132 = .ok (.iload_n 1, 1) := by decide +kernel
theorem dX10_takeRead_133 : decode cX10_takeRead 133 = .ok (.iadd, 1) := by decide +kernel
theorem dX10_takeRead_134 : decode cX10_takeRead 134 = .ok (.iload_n 1, 1) := by decide +kernel
theorem dX10_takeRead_135 : decode cX10_takeRead 135 = .ok (.aload_n 0, 1) := by decide +kernel
theorem dX10_takeRead_136 : decode cX10_takeRead 136 = .ok (.getfield 102, 3) := by decide +kernel
theorem dX10_takeRead_139 : decode cX10_takeRead 139 = .ok (.if_icmp .ge 12, 3) := by decide +kernel
theorem dX10_takeRead_142 : decode cX10_takeRead 142 = .ok (.aload_n 0, 1) := by decide +kernel
theorem dX10_takeRead_143 : decode cX10_takeRead 143 = .ok (.getfield 47, 3) := by decide +kernel
theorem dX10_takeRead_146 : decode cX10_takeRead 146 = .ok (.iload_n 1, 1) := by decide +kernel
theorem dX10_takeRead_147 : decode cX10_takeRead 147 = .ok (.iaload, 1) := by decide +kernel
theorem dX10_takeRead_148 : decode cX10_takeRead 148 = .ok (.goto 4, 3) := by decide +kernel
theorem dX10_takeRead_151 : decode cX10_takeRead 151 = .ok (.iconst 0, 1) := by decide +kernel
theorem dX10_takeRead_152 : decode cX10_takeRead 152 = .ok (.iastore, 1) := by decide +kernel
theorem dX10_takeRead_153 : decode cX10_takeRead 153 = .ok (.aload_n 0, 1) := by decide +kernel
theorem dX10_takeRead_154 : decode cX10_takeRead 154 = .ok (.getfield 29, 3) := by decide +kernel
theorem dX10_takeRead_157 : decode cX10_takeRead 157 = .ok (.bipush 11, 2) := by decide +kernel
theorem dX10_takeRead_159 : decode cX10_takeRead 159 = .ok (.iload_n 1, 1) := by decide +kernel
theorem dX10_takeRead_160 : decode cX10_takeRead 160 = .ok (.iadd, 1) := by decide +kernel
theorem dX10_takeRead_161 : decode cX10_takeRead 161 = .ok (.iconst (-1), 1) := by decide +kernel
theorem dX10_takeRead_162 : decode cX10_takeRead 162 = .ok (.iastore, 1) := by decide +kernel
theorem dX10_takeRead_163 : decode cX10_takeRead 163 = .ok (.aload_n 0, 1) := by decide +kernel
theorem dX10_takeRead_164 : decode cX10_takeRead 164 = .ok (.getfield 29, 3) := by decide +kernel
theorem dX10_takeRead_167 : decode cX10_takeRead 167 = .ok (.bipush 19, 2) := by decide +kernel
theorem dX10_takeRead_169 : decode cX10_takeRead 169 = .ok (.iload_n 1, 1) := by decide +kernel
theorem dX10_takeRead_170 : decode cX10_takeRead 170 = .ok (.iadd, 1) := by decide +kernel
theorem dX10_takeRead_171 : decode cX10_takeRead 171 = .ok (.iconst (-1), 1) := by decide +kernel
theorem dX10_takeRead_172 : decode cX10_takeRead 172 = .ok (.iastore, 1) := by decide +kernel
theorem dX10_takeRead_173 : decode cX10_takeRead 173 = .ok (.iinc 1 1, 3) := by decide +kernel
theorem dX10_takeRead_176 : decode cX10_takeRead 176 = .ok (.goto (-55), 3) := by decide +kernel
theorem dX10_takeRead_179 : decode cX10_takeRead 179 = .ok (.iconst 0, 1) := by decide +kernel
theorem dX10_takeRead_180 : decode cX10_takeRead 180 = .ok (.istore_n 1, 1) := by decide +kernel
theorem dX10_takeRead_181 : decode cX10_takeRead 181 = .ok (.iload_n 1, 1) := by decide +kernel
theorem dX10_takeRead_182 : decode cX10_takeRead 182 = .ok (.aload_n 0, 1) := by decide +kernel
theorem dX10_takeRead_183 : decode cX10_takeRead 183 = .ok (.getfield 102, 3) := by decide +kernel
theorem dX10_takeRead_186 : decode cX10_takeRead 186 = .ok (.if_icmp .ge 78, 3) := by decide +kernel
theorem dX10_takeRead_189 : decode cX10_takeRead 189 = .ok (.aload_n 0, 1) := by decide +kernel
theorem dX10_takeRead_190 : decode cX10_takeRead 190 = .ok (.getfield 7, 3) := by decide +kernel
theorem dX10_takeRead_193 : decode cX10_takeRead 193 = .ok (.iload_n 1, 1) := by decide +kernel
theorem dX10_takeRead_194 : decode cX10_takeRead 194 = .ok (.aload_n 0, 1) := by decide +kernel
theorem dX10_takeRead_195 : decode cX10_takeRead 195 = .ok (.getfield 41, 3) := by decide +kernel
theorem dX10_takeRead_198 : decode cX10_takeRead 198 = .ok (.iload_n 1, 1) := by decide +kernel
theorem dX10_takeRead_199 : decode cX10_takeRead 199 = .ok (.iaload, 1) := by decide +kernel
theorem dX10_takeRead_200 : decode cX10_takeRead 200 = .ok (.iastore, 1) := by decide +kernel
theorem dX10_takeRead_201 : decode cX10_takeRead 201 = .ok (.aload_n 0, 1) := by decide +kernel
theorem dX10_takeRead_202 : decode cX10_takeRead 202 = .ok (.getfield 13, 3) := by decide +kernel
theorem dX10_takeRead_205 : decode cX10_takeRead 205 = .ok (.iload_n 1, 1) := by decide +kernel
theorem dX10_takeRead_206 : decode cX10_takeRead 206 = .ok (.aload_n 0, 1) := by decide +kernel
theorem dX10_takeRead_207 : decode cX10_takeRead 207 = .ok (.getfield 44, 3) := by decide +kernel
theorem dX10_takeRead_210 : decode cX10_takeRead 210 = .ok (.iload_n 1, 1) := by decide +kernel
theorem dX10_takeRead_211 : decode cX10_takeRead 211 = .ok (.iaload, 1) := by decide +kernel
theorem dX10_takeRead_212 : decode cX10_takeRead 212 = .ok (.iastore, 1) := by decide +kernel
theorem dX10_takeRead_213 : decode cX10_takeRead 213 = .ok (.aload_n 0, 1) := by decide +kernel
theorem dX10_takeRead_214 : decode cX10_takeRead 214 = .ok (.getfield 16, 3) := by decide +kernel
theorem dX10_takeRead_217 : decode cX10_takeRead 217 = .ok (.iload_n 1, 1) := by decide +kernel
theorem dX10_takeRead_218 : decode cX10_takeRead 218 = .ok (.aload_n 0, 1) := by decide +kernel
theorem dX10_takeRead_219 : decode cX10_takeRead 219 = .ok (.getfield 50, 3) := by decide +kernel
theorem dX10_takeRead_222 : decode cX10_takeRead 222 = .ok (.iload_n 1, 1) := by decide +kernel
theorem dX10_takeRead_223 : decode cX10_takeRead 223 = .ok (.iaload, 1) := by decide +kernel
theorem dX10_takeRead_224 : decode cX10_takeRead 224 = .ok (.iastore, 1) := by decide +kernel
theorem dX10_takeRead_225 : decode cX10_takeRead 225 = .ok (.iconst 0, 1) := by decide +kernel
theorem dX10_takeRead_226 : decode cX10_takeRead 226 = .ok (.istore_n 2, 1) := by decide +kernel
theorem dX10_takeRead_227 : decode cX10_takeRead 227 = .ok (.iload_n 2, 1) := by decide +kernel
theorem dX10_takeRead_228 : decode cX10_takeRead 228 = .ok (.iconst 5, 1) := by decide +kernel
theorem dX10_takeRead_229 : decode cX10_takeRead 229 = .ok (.if_icmp .ge 29, 3) := by decide +kernel
theorem dX10_takeRead_232 : decode cX10_takeRead 232 = .ok (.aload_n 0, 1) := by decide +kernel
theorem dX10_takeRead_233 : decode cX10_takeRead 233 = .ok (.getfield 19, 3) := by decide +kernel
theorem dX10_takeRead_236 : decode cX10_takeRead 236 = .ok (.iconst 5, 1) := by decide +kernel
theorem dX10_takeRead_237 : decode cX10_takeRead 237 = .ok (.iload_n 1, 1) := by decide +kernel
theorem dX10_takeRead_238 : decode cX10_takeRead 238 = .ok (.imul, 1) := by decide +kernel
theorem dX10_takeRead_239 : decode cX10_takeRead 239 = .ok (.iload_n 2, 1) := by decide +kernel
theorem dX10_takeRead_240 : decode cX10_takeRead 240 = .ok (.iadd, 1) := by decide +kernel
theorem dX10_takeRead_241 : decode cX10_takeRead 241 = .ok (.aload_n 0, 1) := by decide +kernel
theorem dX10_takeRead_242 : decode cX10_takeRead 242 = .ok (.getfield 53, 3) := by decide +kernel
theorem dX10_takeRead_245 : decode cX10_takeRead 245 = .ok (.iconst 5, 1) := by decide +kernel
theorem dX10_takeRead_246 : decode cX10_takeRead 246 = .ok (.iload_n 1, 1) := by decide +kernel
theorem dX10_takeRead_247 : decode cX10_takeRead 247 = .ok (.imul, 1) := by decide +kernel
theorem dX10_takeRead_248 : decode cX10_takeRead 248 = .ok (.iload_n 2, 1) := by decide +kernel
theorem dX10_takeRead_249 : decode cX10_takeRead 249 = .ok (.iadd, 1) := by decide +kernel
theorem dX10_takeRead_250 : decode cX10_takeRead 250 = .ok (.iaload, 1) := by decide +kernel
theorem dX10_takeRead_251 : decode cX10_takeRead 251 = .ok (.iastore, 1) := by decide +kernel
theorem dX10_takeRead_252 : decode cX10_takeRead 252 = .ok (.iinc 2 1, 3) := by decide +kernel
theorem dX10_takeRead_255 : decode cX10_takeRead 255 = .ok (.goto (-28), 3) := by decide +kernel
theorem dX10_takeRead_258 : decode cX10_takeRead 258 = .ok (.iinc 1 1, 3) := by decide +kernel
theorem dX10_takeRead_261 : decode cX10_takeRead 261 = .ok (.goto (-80), 3) := by decide +kernel
theorem dX10_takeRead_264 : decode cX10_takeRead 264 = .ok (.return_, 1) := by decide +kernel
theorem dX10_bay_0 : decode cX10_bay 0 = .ok (.aload_n 0, 1) := by decide +kernel
theorem dX10_bay_1 : decode cX10_bay 1 = .ok (.iconst (-1), 1) := by decide +kernel
theorem dX10_bay_2 : decode cX10_bay 2 = .ok (.putfield 35, 3) := by decide +kernel
theorem dX10_bay_5 : decode cX10_bay 5 = .ok (.aload_n 0, 1) := by decide +kernel
theorem dX10_bay_6 : decode cX10_bay 6 = .ok (.iconst 0, 1) := by decide +kernel
theorem dX10_bay_7 : decode cX10_bay 7 = .ok (.putfield 116, 3) := by decide +kernel
theorem dX10_bay_10 : decode cX10_bay 10 = .ok (.iconst 0, 1) := by decide +kernel
theorem dX10_bay_11 : decode cX10_bay 11 = .ok (.istore_n 1, 1) := by decide +kernel
theorem dX10_bay_12 : decode cX10_bay 12 = .ok (.iload_n 1, 1) := by decide +kernel
theorem dX10_bay_13 : decode cX10_bay 13 = .ok (.iconst 3, 1) := by decide +kernel
theorem dX10_bay_14 : decode cX10_bay 14 = .ok (.if_icmp .ge 16, 3) := by decide +kernel
theorem dX10_bay_17 : decode cX10_bay 17 = .ok (.aload_n 0, 1) := by decide +kernel
theorem dX10_bay_18 : decode cX10_bay 18 = .ok (.getfield 38, 3) := by decide +kernel
theorem dX10_bay_21 : decode cX10_bay 21 = .ok (.iload_n 1, 1) := by decide +kernel
theorem dX10_bay_22 : decode cX10_bay 22 = .ok (.iconst 0, 1) := by decide +kernel
theorem dX10_bay_23 : decode cX10_bay 23 = .ok (.iastore, 1) := by decide +kernel
theorem dX10_bay_24 : decode cX10_bay 24 = .ok (.iinc 1 1, 3) := by decide +kernel
theorem dX10_bay_27 : decode cX10_bay 27 = .ok (.goto (-15), 3) := by decide +kernel
theorem dX10_bay_30 : decode cX10_bay 30 = .ok (.aload_n 0, 1) := by decide +kernel
theorem dX10_bay_31 : decode cX10_bay 31 = .ok (.iconst 0, 1) := by decide +kernel
theorem dX10_bay_32 : decode cX10_bay 32 = .ok (.putfield 156, 3) := by decide +kernel
theorem dX10_bay_35 : decode cX10_bay 35 = .ok (.aload_n 0, 1) := by decide +kernel
theorem dX10_bay_36 : decode cX10_bay 36 = .ok (.iconst 0, 1) := by decide +kernel
theorem dX10_bay_37 : decode cX10_bay 37 = .ok (.putfield 166, 3) := by decide +kernel
theorem dX10_bay_40 : decode cX10_bay 40 = .ok (.aload_n 0, 1) := by decide +kernel
theorem dX10_bay_41 : decode cX10_bay 41 = .ok (.iconst 0, 1) := by decide +kernel
theorem dX10_bay_42 : decode cX10_bay 42 = .ok (.putfield 170, 3) := by decide +kernel
theorem dX10_bay_45 : decode cX10_bay 45 = .ok (.iconst 0, 1) := by decide +kernel
theorem dX10_bay_46 : decode cX10_bay 46 = .ok (.istore_n 1, 1) := by decide +kernel
theorem dX10_bay_47 : decode cX10_bay 47 = .ok (.iload_n 1, 1) := by decide +kernel
theorem dX10_bay_48 : decode cX10_bay 48 = .ok (.ifCond .ne 18, 3) := by decide +kernel
theorem dX10_bay_51 : decode cX10_bay 51 = .ok (.aload_n 0, 1) := by decide +kernel
theorem dX10_bay_52 : decode cX10_bay 52 = .ok (.invokevirtual 119, 3) := by decide +kernel
theorem dX10_bay_55 : decode cX10_bay 55 = .ok (.ifCond .lt 11, 3) := by decide +kernel
theorem dX10_bay_58 : decode cX10_bay 58 = .ok (.aload_n 0, 1) := by decide +kernel
theorem dX10_bay_59 : decode cX10_bay 59 = .ok (.invokevirtual 179, 3) := by decide +kernel
theorem dX10_bay_62 : decode cX10_bay 62 = .ok (.istore_n 1, 1) := by decide +kernel
theorem dX10_bay_63 : decode cX10_bay 63 = .ok (.goto (-16), 3) := by decide +kernel
theorem dX10_bay_66 : decode cX10_bay 66 = .ok (.aload_n 0, 1) := by decide +kernel
theorem dX10_bay_67 : decode cX10_bay 67 = .ok (.iconst 0, 1) := by decide +kernel
theorem dX10_bay_68 : decode cX10_bay 68 = .ok (.putfield 112, 3) := by decide +kernel
theorem dX10_bay_71 : decode cX10_bay 71 = .ok (.iload_n 1, 1) := by decide +kernel
theorem dX10_bay_72 : decode cX10_bay 72 = .ok (.ifCond .le 8, 3) := by decide +kernel
theorem dX10_bay_75 : decode cX10_bay 75 = .ok (.bipush (-10), 2) := by decide +kernel
theorem dX10_bay_77 : decode cX10_bay 77 = .ok (.iload_n 1, 1) := by decide +kernel
theorem dX10_bay_78 : decode cX10_bay 78 = .ok (.isub, 1) := by decide +kernel
theorem dX10_bay_79 : decode cX10_bay 79 = .ok (.ireturn, 1) := by decide +kernel
theorem dX10_bay_80 : decode cX10_bay 80 = .ok (.aload_n 0, 1) := by decide +kernel
theorem dX10_bay_81 : decode cX10_bay 81 = .ok (.invokevirtual 182, 3) := by decide +kernel
theorem dX10_bay_84 : decode cX10_bay 84 = .ok (.aload_n 0, 1) := by decide +kernel
theorem dX10_bay_85 : decode cX10_bay 85 = .ok (.iconst 0, 1) := by decide +kernel
theorem dX10_bay_86 : decode cX10_bay 86 = .ok (.putfield 185, 3) := by decide +kernel
theorem dX10_bay_89 : decode cX10_bay 89 = .ok (.aload_n 0, 1) := by decide +kernel
theorem dX10_bay_90 : decode cX10_bay 90 = .ok (.iconst 0, 1) := by decide +kernel
theorem dX10_bay_91 : decode cX10_bay 91 = .ok (.putfield 188, 3) := by decide +kernel
theorem dX10_bay_94 : decode cX10_bay 94 = .ok (.aload_n 0, 1) := by decide +kernel
theorem dX10_bay_95 : decode cX10_bay 95 = .ok (.iconst 0, 1) := by decide +kernel
theorem dX10_bay_96 : decode cX10_bay 96 = .ok (.putfield 191, 3) := by decide +kernel
theorem dX10_bay_99 : decode cX10_bay 99 = .ok (.aload_n 0, 1) := by decide +kernel
theorem dX10_bay_100 : decode cX10_bay 100 = .ok (.getfield 96, 3) := by decide +kernel
theorem dX10_bay_103 : decode cX10_bay 103 = .ok (.iconst 0, 1) := by decide +kernel
theorem dX10_bay_104 : decode cX10_bay 104 = .ok (.iconst 0, 1) := by decide +kernel
theorem dX10_bay_105 : decode cX10_bay 105 = .ok (.bastore, 1) := by decide +kernel
theorem dX10_bay_106 : decode cX10_bay 106 = .ok (.aload_n 0, 1) := by decide +kernel
theorem dX10_bay_107 : decode cX10_bay 107 = .ok (.getfield 96, 3) := by decide +kernel
theorem dX10_bay_110 : decode cX10_bay 110 = .ok (.iconst 1, 1) := by decide +kernel
theorem dX10_bay_111 : decode cX10_bay 111 = .ok (.iconst 0, 1) := by decide +kernel
theorem dX10_bay_112 : decode cX10_bay 112 = .ok (.bastore, 1) := by decide +kernel
theorem dX10_bay_113 : decode cX10_bay 113 = .ok (.aload_n 0, 1) := by decide +kernel
theorem dX10_bay_114 : decode cX10_bay 114 = .ok (.getfield 102, 3) := by decide +kernel
theorem dX10_bay_117 : decode cX10_bay 117 = .ok (.ireturn, 1) := by decide +kernel
theorem dX10_fault_0 : decode cX10_fault 0 = .ok (.aload_n 0, 1) := by decide +kernel
theorem dX10_fault_1 : decode cX10_fault 1 = .ok (.getfield 35, 3) := by decide +kernel
theorem dX10_fault_4 : decode cX10_fault 4 = .ok (.ireturn, 1) := by decide +kernel
theorem dX10_isGreen_0 : decode cX10_isGreen 0 = .ok (.iconst 0, 1) := by decide +kernel
theorem dX10_isGreen_1 : decode cX10_isGreen 1 = .ok (.istore_n 2, 1) := by decide +kernel
theorem dX10_isGreen_2 : decode cX10_isGreen 2 = .ok (.iconst 0, 1) := by decide +kernel
theorem dX10_isGreen_3 : decode cX10_isGreen 3 = .ok (.istore_n 3, 1) := by decide +kernel
theorem dX10_isGreen_4 : decode cX10_isGreen 4 = .ok (.iload_n 3, 1) := by decide +kernel
theorem dX10_isGreen_5 : decode cX10_isGreen 5 = .ok (.aload_n 0, 1) := by decide +kernel
theorem dX10_isGreen_6 : decode cX10_isGreen 6 = .ok (.getfield 16, 3) := by decide +kernel
theorem dX10_isGreen_9 : decode cX10_isGreen 9 = .ok (.iload_n 1, 1) := by decide +kernel
theorem dX10_isGreen_10 : decode cX10_isGreen 10 = .ok (.iaload, 1) := by decide +kernel
theorem dX10_isGreen_11 : decode cX10_isGreen 11 = .ok (.if_icmp .ge 33, 3) := by decide +kernel
theorem dX10_isGreen_14 : decode cX10_isGreen 14 = .ok (.iload_n 2, 1) := by decide +kernel
theorem dX10_isGreen_15 : decode cX10_isGreen 15 = .ok (.ifCond .ne 17, 3) := by decide +kernel
theorem dX10_isGreen_18 : decode cX10_isGreen 18 = .ok (.aload_n 0, 1) := by decide +kernel
theorem dX10_isGreen_19 : decode cX10_isGreen 19 = .ok (.getfield 19, 3) := by decide +kernel
theorem dX10_isGreen_22 : decode cX10_isGreen 22 = .ok (.iconst 5, 1) := by decide +kernel
theorem dX10_isGreen_23 : decode cX10_isGreen 23 = .ok (.iload_n 1, 1) := by decide +kernel
theorem dX10_isGreen_24 : decode cX10_isGreen 24 = .ok (.imul, 1) := by decide +kernel
theorem dX10_isGreen_25 : decode cX10_isGreen 25 = .ok (.iload_n 3, 1) := by decide +kernel
theorem dX10_isGreen_26 : decode cX10_isGreen 26 = .ok (.iadd, 1) := by decide +kernel
theorem dX10_isGreen_27 : decode cX10_isGreen 27 = .ok (.iaload, 1) := by decide +kernel
theorem dX10_isGreen_28 : decode cX10_isGreen 28 = .ok (.iconst 3, 1) := by decide +kernel
theorem dX10_isGreen_29 : decode cX10_isGreen 29 = .ok (.if_icmp .ne 7, 3) := by decide +kernel
theorem dX10_isGreen_32 : decode cX10_isGreen 32 = .ok (.iconst 1, 1) := by decide +kernel
theorem dX10_isGreen_33 : decode cX10_isGreen 33 = .ok (.goto 4, 3) := by decide +kernel
theorem dX10_isGreen_36 : decode cX10_isGreen 36 = .ok (.iconst 0, 1) := by decide +kernel
theorem dX10_isGreen_37 : decode cX10_isGreen 37 = .ok (.istore_n 2, 1) := by decide +kernel
theorem dX10_isGreen_38 : decode cX10_isGreen 38 = .ok (.iinc 3 1, 3) := by decide +kernel
theorem dX10_isGreen_41 : decode cX10_isGreen 41 = .ok (.goto (-37), 3) := by decide +kernel
theorem dX10_isGreen_44 : decode cX10_isGreen 44 = .ok (.iload_n 2, 1) := by decide +kernel
theorem dX10_isGreen_45 : decode cX10_isGreen 45 = .ok (.ireturn, 1) := by decide +kernel
theorem dX10_contracts_0 : decode cX10_contracts 0 = .ok (.iconst 0, 1) := by decide +kernel
theorem dX10_contracts_1 : decode cX10_contracts 1 = .ok (.istore_n 2, 1) := by decide +kernel
theorem dX10_contracts_2 : decode cX10_contracts 2 = .ok (.iconst 0, 1) := by decide +kernel
theorem dX10_contracts_3 : decode cX10_contracts 3 = .ok (.istore_n 3, 1) := by decide +kernel
theorem dX10_contracts_4 : decode cX10_contracts 4 = .ok (.iload_n 3, 1) := by decide +kernel
theorem dX10_contracts_5 : decode cX10_contracts 5 = .ok (.aload_n 0, 1) := by decide +kernel
theorem dX10_contracts_6 : decode cX10_contracts 6 = .ok (.getfield 102, 3) := by decide +kernel
theorem dX10_contracts_9 : decode cX10_contracts 9 = .ok (.if_icmp .ge 75, 3) := by decide +kernel
theorem dX10_contracts_12 : decode cX10_contracts 12 = .ok (.iload_n 3, 1) := by decide +kernel
theorem dX10_contracts_13 : decode cX10_contracts 13 = .ok (.iconst 1, 1) := by decide +kernel
theorem dX10_contracts_14 : decode cX10_contracts 14 = .ok (.iadd, 1) := by decide +kernel
theorem dX10_contracts_15 : decode cX10_contracts 15 = .ok (.istore 4, 2) := by decide +kernel
theorem dX10_contracts_17 : decode cX10_contracts 17 = .ok (.iload 4, 2) := by decide +kernel
theorem dX10_contracts_19 : decode cX10_contracts 19 = .ok (.aload_n 0, 1) := by decide +kernel
theorem dX10_contracts_20 : decode cX10_contracts 20 = .ok (.getfield 102, 3) := by decide +kernel
theorem dX10_contracts_23 : decode cX10_contracts 23 = .ok (.if_icmp .ge 55, 3) := by decide +kernel
theorem dX10_contracts_26 : decode cX10_contracts 26 = .ok (.iload_n 2, 1) := by decide +kernel
theorem dX10_contracts_27 : decode cX10_contracts 27 = .ok (.aload_n 0, 1) := by decide +kernel
theorem dX10_contracts_28 : decode cX10_contracts 28 = .ok (.getfield 29, 3) := by decide +kernel
theorem dX10_contracts_31 : decode cX10_contracts 31 = .ok (.bipush 35, 2) := by decide +kernel
theorem dX10_contracts_33 : decode cX10_contracts 33 = .ok (.iload_n 3, 1) := by decide +kernel
theorem dX10_contracts_34 : decode cX10_contracts 34 = .ok (.iadd, 1) := by decide +kernel
theorem dX10_contracts_35 : decode cX10_contracts 35 = .ok (.iaload, 1) := by decide +kernel
theorem dX10_contracts_36 : decode cX10_contracts 36 = .ok (.iload 4, 2) := by decide +kernel
theorem dX10_contracts_38 : decode cX10_contracts 38 = .ok (.invokestatic 194, 3) := by decide +kernel
theorem dX10_contracts_41 : decode cX10_contracts 41 = .ok (.ifCond .eq 28, 3) := by decide +kernel
theorem dX10_contracts_44 : decode cX10_contracts 44 = .ok (.iload_n 1, 1) := by decide +kernel
theorem dX10_contracts_45 : decode cX10_contracts 45 = .ok (.ifCond .eq 20, 3) := by decide +kernel
theorem dX10_contracts_48 : decode cX10_contracts 48 = .ok (.aload_n 0, 1) := by decide +kernel
theorem dX10_contracts_49 : decode cX10_contracts 49 = .ok (.iload_n 3, 1) := by decide +kernel
theorem dX10_contracts_50 : decode cX10_contracts 50 = .ok (.invokevirtual 197, 3) := by decide +kernel
theorem dX10_contracts_53 : decode cX10_contracts 53 = .ok (.ifCond .ne 12, 3) := by decide +kernel
theorem dX10_contracts_56 : decode cX10_contracts 56 = .ok (.aload_n 0, 1) := by decide +kernel
theorem dX10_contracts_57 : decode cX10_contracts 57 = .ok (.iload 4, 2) := by decide +kernel
theorem dX10_contracts_59 : decode cX10_contracts 59 = .ok (.invokevirtual 197, 3) := by decide +kernel
theorem dX10_contracts_62 : decode cX10_contracts 62 = .ok (.ifCond .eq 7, 3) := by decide +kernel
theorem dX10_contracts_65 : decode cX10_contracts 65 = .ok (.iconst 1, 1) := by decide +kernel
theorem dX10_contracts_66 : decode cX10_contracts 66 = .ok (.goto 4, 3) := by decide +kernel
theorem dX10_contracts_69 : decode cX10_contracts 69 = .ok (.iconst 0, 1) := by decide +kernel
theorem dX10_contracts_70 : decode cX10_contracts 70 = .ok (.iadd, 1) := by decide +kernel
theorem dX10_contracts_71 : decode cX10_contracts 71 = .ok (.istore_n 2, 1) := by decide +kernel
theorem dX10_contracts_72 : decode cX10_contracts 72 = .ok (.iinc 4 1, 3) := by decide +kernel
theorem dX10_contracts_75 : decode cX10_contracts 75 = .ok (.goto (-58), 3) := by decide +kernel
theorem dX10_contracts_78 : decode cX10_contracts 78 = .ok (.iinc 3 1, 3) := by decide +kernel
theorem dX10_contracts_81 : decode cX10_contracts 81 = .ok (.goto (-77), 3) := by decide +kernel
theorem dX10_contracts_84 : decode cX10_contracts 84 = .ok (.iload_n 2, 1) := by decide +kernel
theorem dX10_contracts_85 : decode cX10_contracts 85 = .ok (.ireturn, 1) := by decide +kernel
theorem dX10_told_0 : decode cX10_told 0 = .ok (.iload_n 1, 1) := by decide +kernel
theorem dX10_told_1 : decode cX10_told 1 = .ok (.tableswitch 140 0 12 #[67, 72, 79, 86, 91, 96, 101, 106, 113, 119, 125, 130, 135], 67) := by decide +kernel
theorem dX10_told_68 : decode cX10_told 68 = .ok (.aload_n 0, 1) := by decide +kernel
theorem dX10_told_69 : decode cX10_told 69 = .ok (.getfield 99, 3) := by decide +kernel
theorem dX10_told_72 : decode cX10_told 72 = .ok (.ireturn, 1) := by decide +kernel
theorem dX10_told_73 : decode cX10_told 73 = .ok (.aload_n 0, 1) := by decide +kernel
theorem dX10_told_74 : decode cX10_told 74 = .ok (.getfield 29, 3) := by decide +kernel
theorem dX10_told_77 : decode cX10_told 77 = .ok (.iconst 0, 1) := by decide +kernel
theorem dX10_told_78 : decode cX10_told 78 = .ok (.iaload, 1) := by decide +kernel
theorem dX10_told_79 : decode cX10_told 79 = .ok (.ireturn, 1) := by decide +kernel
theorem dX10_told_80 : decode cX10_told 80 = .ok (.aload_n 0, 1) := by decide +kernel
theorem dX10_told_81 : decode cX10_told 81 = .ok (.getfield 29, 3) := by decide +kernel
theorem dX10_told_84 : decode cX10_told 84 = .ok (.iconst 1, 1) := by decide +kernel
theorem dX10_told_85 : decode cX10_told 85 = .ok (.iaload, 1) := by decide +kernel
theorem dX10_told_86 : decode cX10_told 86 = .ok (.ireturn, 1) := by decide +kernel
theorem dX10_told_87 : decode cX10_told 87 = .ok (.aload_n 0, 1) := by decide +kernel
theorem dX10_told_88 : decode cX10_told 88 = .ok (.getfield 102, 3) := by decide +kernel
theorem dX10_told_91 : decode cX10_told 91 = .ok (.ireturn, 1) := by decide +kernel
theorem dX10_told_92 : decode cX10_told 92 = .ok (.aload_n 0, 1) := by decide +kernel
theorem dX10_told_93 : decode cX10_told 93 = .ok (.getfield 22, 3) := by decide +kernel
theorem dX10_told_96 : decode cX10_told 96 = .ok (.ireturn, 1) := by decide +kernel
theorem dX10_told_97 : decode cX10_told 97 = .ok (.aload_n 0, 1) := by decide +kernel
theorem dX10_told_98 : decode cX10_told 98 = .ok (.getfield 26, 3) := by decide +kernel
theorem dX10_told_101 : decode cX10_told 101 = .ok (.ireturn, 1) := by decide +kernel
theorem dX10_told_102 : decode cX10_told 102 = .ok (.aload_n 0, 1) := by decide +kernel
theorem dX10_told_103 : decode cX10_told 103 = .ok (.getfield 112, 3) := by decide +kernel
theorem dX10_told_106 : decode cX10_told 106 = .ok (.ireturn, 1) := by decide +kernel
theorem dX10_told_107 : decode cX10_told 107 = .ok (.aload_n 0, 1) := by decide +kernel
theorem dX10_told_108 : decode cX10_told 108 = .ok (.getfield 29, 3) := by decide +kernel
theorem dX10_told_111 : decode cX10_told 111 = .ok (.iconst 2, 1) := by decide +kernel
theorem dX10_told_112 : decode cX10_told 112 = .ok (.iaload, 1) := by decide +kernel
theorem dX10_told_113 : decode cX10_told 113 = .ok (.ireturn, 1) := by decide +kernel
theorem dX10_told_114 : decode cX10_told 114 = .ok (.aload_n 0, 1) := by decide +kernel
theorem dX10_told_115 : decode cX10_told 115 = .ok (.iconst 0, 1) := by decide +kernel
theorem dX10_told_116 : decode cX10_told 116 = .ok (.invokevirtual 200, 3) := by decide +kernel
theorem dX10_told_119 : decode cX10_told 119 = .ok (.ireturn, 1) := by decide +kernel
theorem dX10_told_120 : decode cX10_told 120 = .ok (.aload_n 0, 1) := by decide +kernel
theorem dX10_told_121 : decode cX10_told 121 = .ok (.iconst 1, 1) := by decide +kernel
theorem dX10_told_122 : decode cX10_told 122 = .ok (.invokevirtual 200, 3) := by decide +kernel
theorem dX10_told_125 : decode cX10_told 125 = .ok (.ireturn, 1) := by decide +kernel
theorem dX10_told_126 : decode cX10_told 126 = .ok (.aload_n 0, 1) := by decide +kernel
theorem dX10_told_127 : decode cX10_told 127 = .ok (.getfield 185, 3) := by decide +kernel
theorem dX10_told_130 : decode cX10_told 130 = .ok (.ireturn, 1) := by decide +kernel
theorem dX10_told_131 : decode cX10_told 131 = .ok (.aload_n 0, 1) := by decide +kernel
theorem dX10_told_132 : decode cX10_told 132 = .ok (.getfield 188, 3) := by decide +kernel
theorem dX10_told_135 : decode cX10_told 135 = .ok (.ireturn, 1) := by decide +kernel
theorem dX10_told_136 : decode cX10_told 136 = .ok (.aload_n 0, 1) := by decide +kernel
theorem dX10_told_137 : decode cX10_told 137 = .ok (.getfield 191, 3) := by decide +kernel
theorem dX10_told_140 : decode cX10_told 140 = .ok (.ireturn, 1) := by decide +kernel
theorem dX10_told_141 : decode cX10_told 141 = .ok (.ldc 111, 2) := by decide +kernel
theorem dX10_told_143 : decode cX10_told 143 = .ok (.ireturn, 1) := by decide +kernel
theorem dX10_starNumber_0 : decode cX10_starNumber 0 = .ok (.iconst 0, 1) := by decide +kernel
theorem dX10_starNumber_1 : decode cX10_starNumber 1 = .ok (.istore_n 2, 1) := by decide +kernel
theorem dX10_starNumber_2 : decode cX10_starNumber 2 = .ok (.iconst 0, 1) := by decide +kernel
theorem dX10_starNumber_3 : decode cX10_starNumber 3 = .ok (.istore_n 3, 1) := by decide +kernel
theorem dX10_starNumber_4 : decode cX10_starNumber 4 = .ok (.iload_n 3, 1) := by decide +kernel
theorem dX10_starNumber_5 : decode cX10_starNumber 5 = .ok (.aload_n 0, 1) := by decide +kernel
theorem dX10_starNumber_6 : decode cX10_starNumber 6 = .ok (.getfield 16, 3) := by decide +kernel
theorem dX10_starNumber_9 : decode cX10_starNumber 9 = .ok (.iload_n 1, 1) := by decide +kernel
theorem dX10_starNumber_10 : decode cX10_starNumber 10 = .ok (.iaload, 1) := by decide +kernel
theorem dX10_starNumber_11 : decode cX10_starNumber 11 = .ok (.if_icmp .ge 25, 3) := by decide +kernel
theorem dX10_starNumber_14 : decode cX10_starNumber 14 = .ok (.bipush 10, 2) := by decide +kernel
theorem dX10_starNumber_16 : decode cX10_starNumber 16 = .ok (.iload_n 2, 1) := by decide +kernel
theorem dX10_starNumber_17 : decode cX10_starNumber 17 = .ok (.imul, 1) := by decide +kernel
theorem dX10_starNumber_18 : decode cX10_starNumber 18 = .ok (.aload_n 0, 1) := by decide +kernel
theorem dX10_starNumber_19 : decode cX10_starNumber 19 = .ok (.getfield 19, 3) := by decide +kernel
theorem dX10_starNumber_22 : decode cX10_starNumber 22 = .ok (.iconst 5, 1) := by decide +kernel
theorem dX10_starNumber_23 : decode cX10_starNumber 23 = .ok (.iload_n 1, 1) := by decide +kernel
theorem dX10_starNumber_24 : decode cX10_starNumber 24 = .ok (.imul, 1) := by decide +kernel
theorem dX10_starNumber_25 : decode cX10_starNumber 25 = .ok (.iload_n 3, 1) := by decide +kernel
theorem dX10_starNumber_26 : decode cX10_starNumber 26 = .ok (.iadd, 1) := by decide +kernel
theorem dX10_starNumber_27 : decode cX10_starNumber 27 = .ok (.iaload, 1) := by decide +kernel
theorem dX10_starNumber_28 : decode cX10_starNumber 28 = .ok (.iadd, 1) := by decide +kernel
theorem dX10_starNumber_29 : decode cX10_starNumber 29 = .ok (.istore_n 2, 1) := by decide +kernel
theorem dX10_starNumber_30 : decode cX10_starNumber 30 = .ok (.iinc 3 1, 3) := by decide +kernel
theorem dX10_starNumber_33 : decode cX10_starNumber 33 = .ok (.goto (-29), 3) := by decide +kernel
theorem dX10_starNumber_36 : decode cX10_starNumber 36 = .ok (.iload_n 2, 1) := by decide +kernel
theorem dX10_starNumber_37 : decode cX10_starNumber 37 = .ok (.ireturn, 1) := by decide +kernel
theorem dX10_readAs_0 : decode cX10_readAs 0 = .ok (.iload_n 1, 1) := by decide +kernel
theorem dX10_readAs_1 : decode cX10_readAs 1 = .ok (.istore_n 2, 1) := by decide +kernel
theorem dX10_readAs_2 : decode cX10_readAs 2 = .ok (.iconst 0, 1) := by decide +kernel
theorem dX10_readAs_3 : decode cX10_readAs 3 = .ok (.istore_n 3, 1) := by decide +kernel
theorem dX10_readAs_4 : decode cX10_readAs 4 = .ok (.iload_n 3, 1) := by decide +kernel
theorem dX10_readAs_5 : decode cX10_readAs 5 = .ok (.aload_n 0, 1) := by decide +kernel
theorem dX10_readAs_6 : decode cX10_readAs 6 = .ok (.getfield 102, 3) := by decide +kernel
theorem dX10_readAs_9 : decode cX10_readAs 9 = .ok (.if_icmp .ge 72, 3) := by decide +kernel
theorem dX10_readAs_12 : decode cX10_readAs 12 = .ok (.aload_n 0, 1) := by decide +kernel
theorem dX10_readAs_13 : decode cX10_readAs 13 = .ok (.getfield 13, 3) := by decide +kernel
theorem dX10_readAs_16 : decode cX10_readAs 16 = .ok (.iload_n 1, 1) := by decide +kernel
theorem dX10_readAs_17 : decode cX10_readAs 17 = .ok (.iaload, 1) := by decide +kernel
theorem dX10_readAs_18 : decode cX10_readAs 18 = .ok (.iconst 3, 1) := by decide +kernel
theorem dX10_readAs_19 : decode cX10_readAs 19 = .ok (.if_icmp .ge 62, 3) := by decide +kernel
theorem dX10_readAs_22 : decode cX10_readAs 22 = .ok (.aload_n 0, 1) := by decide +kernel
theorem dX10_readAs_23 : decode cX10_readAs 23 = .ok (.getfield 7, 3) := by decide +kernel
theorem dX10_readAs_26 : decode cX10_readAs 26 = .ok (.iload_n 3, 1) := by decide +kernel
theorem dX10_readAs_27 : decode cX10_readAs 27 = .ok (.iaload, 1) := by decide +kernel
theorem dX10_readAs_28 : decode cX10_readAs 28 = .ok (.aload_n 0, 1) := by decide +kernel
theorem dX10_readAs_29 : decode cX10_readAs 29 = .ok (.getfield 7, 3) := by decide +kernel
theorem dX10_readAs_32 : decode cX10_readAs 32 = .ok (.iload_n 1, 1) := by decide +kernel
theorem dX10_readAs_33 : decode cX10_readAs 33 = .ok (.iaload, 1) := by decide +kernel
theorem dX10_readAs_34 : decode cX10_readAs 34 = .ok (.if_icmp .le 27, 3) := by decide +kernel
theorem dX10_readAs_37 : decode cX10_readAs 37 = .ok (.iload_n 2, 1) := by decide +kernel
theorem dX10_readAs_38 : decode cX10_readAs 38 = .ok (.iload_n 1, 1) := by decide +kernel
theorem dX10_readAs_39 : decode cX10_readAs 39 = .ok (.if_icmp .eq 18, 3) := by decide +kernel
theorem dX10_readAs_42 : decode cX10_readAs 42 = .ok (.aload_n 0, 1) := by decide +kernel
theorem dX10_readAs_43 : decode cX10_readAs 43 = .ok (.getfield 7, 3) := by decide +kernel
theorem dX10_readAs_46 : decode cX10_readAs 46 = .ok (.iload_n 3, 1) := by decide +kernel
theorem dX10_readAs_47 : decode cX10_readAs 47 = .ok (.iaload, 1) := by decide +kernel
theorem dX10_readAs_48 : decode cX10_readAs 48 = .ok (.aload_n 0, 1) := by decide +kernel
theorem dX10_readAs_49 : decode cX10_readAs 49 = .ok (.getfield 7, 3) := by decide +kernel
theorem dX10_readAs_52 : decode cX10_readAs 52 = .ok (.iload_n 2, 1) := by decide +kernel
theorem dX10_readAs_53 : decode cX10_readAs 53 = .ok (.iaload, 1) := by decide +kernel
theorem dX10_readAs_54 : decode cX10_readAs 54 = .ok (.if_icmp .ge 7, 3) := by decide +kernel
theorem dX10_readAs_57 : decode cX10_readAs 57 = .ok (.iconst 1, 1) := by decide +kernel
theorem dX10_readAs_58 : decode cX10_readAs 58 = .ok (.goto 4, 3) := by decide +kernel
theorem dX10_readAs_61 : decode cX10_readAs 61 = .ok (.iconst 0, 1) := by decide +kernel
theorem dX10_readAs_62 : decode cX10_readAs 62 = .ok (.istore 4, 2) := by decide +kernel
theorem dX10_readAs_64 : decode cX10_readAs 64 = .ok (.iload 4, 2) := by decide +kernel
theorem dX10_readAs_66 : decode cX10_readAs 66 = .ok (.ifCond .eq 7, 3) := by decide +kernel
theorem dX10_readAs_69 : decode cX10_readAs 69 = .ok (.iload_n 3, 1) := by decide +kernel
theorem dX10_readAs_70 : decode cX10_readAs 70 = .ok (.goto 4, 3) := by decide +kernel
theorem dX10_readAs_73 : decode cX10_readAs 73 = .ok (.iload_n 2, 1) := by decide +kernel
theorem dX10_readAs_74 : decode cX10_readAs 74 = .ok (.istore_n 2, 1) := by decide +kernel
theorem dX10_readAs_75 : decode cX10_readAs 75 = .ok (.iinc 3 1, 3) := by decide +kernel
theorem dX10_readAs_78 : decode cX10_readAs 78 = .ok (.goto (-74), 3) := by decide +kernel
theorem dX10_readAs_81 : decode cX10_readAs 81 = .ok (.iload_n 2, 1) := by decide +kernel
theorem dX10_readAs_82 : decode cX10_readAs 82 = .ok (.ireturn, 1) := by decide +kernel
theorem dX10_house_0 : decode cX10_house 0 = .ok (.aload_n 0, 1) := by decide +kernel
theorem dX10_house_1 : decode cX10_house 1 = .ok (.iload_n 1, 1) := by decide +kernel
theorem dX10_house_2 : decode cX10_house 2 = .ok (.invokevirtual 204, 3) := by decide +kernel
theorem dX10_house_5 : decode cX10_house 5 = .ok (.ifCond .ne 6, 3) := by decide +kernel
theorem dX10_house_8 : decode cX10_house 8 = .ok (.ldc 207, 2) := by decide +kernel
theorem dX10_house_10 : decode cX10_house 10 = .ok (.ireturn, 1) := by decide +kernel
theorem dX10_house_11 : decode cX10_house 11 = .ok (.iload_n 2, 1) := by decide +kernel
theorem dX10_house_12 : decode cX10_house 12 = .ok (.tableswitch 110 0 7 #[48, 55, 62, 71, 78, 84, 94, 104], 48) := by decide +kernel
theorem dX10_house_60 : decode cX10_house 60 = .ok (.aload_n 0, 1) := by decide +kernel
theorem dX10_house_61 : decode cX10_house 61 = .ok (.getfield 7, 3) := by decide +kernel
theorem dX10_house_64 : decode cX10_house 64 = .ok (.iload_n 1, 1) := by decide +kernel
theorem dX10_house_65 : decode cX10_house 65 = .ok (.iaload, 1) := by decide +kernel
theorem dX10_house_66 : decode cX10_house 66 = .ok (.ireturn, 1) := by decide +kernel
theorem dX10_house_67 : decode cX10_house 67 = .ok (.aload_n 0, 1) := by decide +kernel
theorem dX10_house_68 : decode cX10_house 68 = .ok (.getfield 13, 3) := by decide +kernel
theorem dX10_house_71 : decode cX10_house 71 = .ok (.iload_n 1, 1) := by decide +kernel
theorem dX10_house_72 : decode cX10_house 72 = .ok (.iaload, 1) := by decide +kernel
theorem dX10_house_73 : decode cX10_house 73 = .ok (.ireturn, 1) := by decide +kernel
theorem dX10_house_74 : decode cX10_house 74 = .ok (.aload_n 0, 1) := by decide +kernel
theorem dX10_house_75 : decode cX10_house 75 = .ok (.getfield 29, 3) := by decide +kernel
theorem dX10_house_78 : decode cX10_house 78 = .ok (.iconst 3, 1) := by decide +kernel
theorem dX10_house_79 : decode cX10_house 79 = .ok (.iload_n 1, 1) := by decide +kernel
theorem dX10_house_80 : decode cX10_house 80 = .ok (.iadd, 1) := by decide +kernel
theorem dX10_house_81 : decode cX10_house 81 = .ok (.iaload, 1) := by decide +kernel
theorem dX10_house_82 : decode cX10_house 82 = .ok (.ireturn, 1) := by decide +kernel
theorem dX10_house_83 : decode cX10_house 83 = .ok (.aload_n 0, 1) := by decide +kernel
theorem dX10_house_84 : decode cX10_house 84 = .ok (.getfield 16, 3) := by decide +kernel
theorem dX10_house_87 : decode cX10_house 87 = .ok (.iload_n 1, 1) := by decide +kernel
theorem dX10_house_88 : decode cX10_house 88 = .ok (.iaload, 1) := by decide +kernel
theorem dX10_house_89 : decode cX10_house 89 = .ok (.ireturn, 1) := by decide +kernel
theorem dX10_house_90 : decode cX10_house 90 = .ok (.aload_n 0, 1) := by decide +kernel
theorem dX10_house_91 : decode cX10_house 91 = .ok (.iload_n 1, 1) := by decide +kernel
theorem dX10_house_92 : decode cX10_house 92 = .ok (.invokevirtual 208, 3) := by decide +kernel
theorem dX10_house_95 : decode cX10_house 95 = .ok (.ireturn, 1) := by decide +kernel
theorem dX10_house_96 : decode cX10_house 96 = .ok (.aload_n 0, 1) := by decide +kernel
theorem dX10_house_97 : decode cX10_house 97 = .ok (.getfield 29, 3) := by decide +kernel
theorem dX10_house_100 : decode cX10_house 100 = .ok (.bipush 11, 2) := by decide +kernel
theorem dX10_house_102 : decode cX10_house 102 = .ok (.iload_n 1, 1) := by decide +kernel
theorem dX10_house_103 : decode cX10_house 103 = .ok (.iadd, 1) := by decide +kernel
theorem dX10_house_104 : decode cX10_house 104 = .ok (.iaload, 1) := by decide +kernel
theorem dX10_house_105 : decode cX10_house 105 = .ok (.ireturn, 1) := by decide +kernel
theorem dX10_house_106 : decode cX10_house 106 = .ok (.aload_n 0, 1) := by decide +kernel
theorem dX10_house_107 : decode cX10_house 107 = .ok (.getfield 29, 3) := by decide +kernel
theorem dX10_house_110 : decode cX10_house 110 = .ok (.bipush 19, 2) := by decide +kernel
theorem dX10_house_112 : decode cX10_house 112 = .ok (.iload_n 1, 1) := by decide +kernel
theorem dX10_house_113 : decode cX10_house 113 = .ok (.iadd, 1) := by decide +kernel
theorem dX10_house_114 : decode cX10_house 114 = .ok (.iaload, 1) := by decide +kernel
theorem dX10_house_115 : decode cX10_house 115 = .ok (.ireturn, 1) := by decide +kernel
theorem dX10_house_116 : decode cX10_house 116 = .ok (.aload_n 0, 1) := by decide +kernel
theorem dX10_house_117 : decode cX10_house 117 = .ok (.iload_n 1, 1) := by decide +kernel
theorem dX10_house_118 : decode cX10_house 118 = .ok (.invokevirtual 211, 3) := by decide +kernel
theorem dX10_house_121 : decode cX10_house 121 = .ok (.ireturn, 1) := by decide +kernel
theorem dX10_house_122 : decode cX10_house 122 = .ok (.ldc 111, 2) := by decide +kernel
theorem dX10_house_124 : decode cX10_house 124 = .ok (.ireturn, 1) := by decide +kernel
theorem dX10_overOf_0 : decode cX10_overOf 0 = .ok (.aload_n 0, 1) := by decide +kernel
theorem dX10_overOf_1 : decode cX10_overOf 1 = .ok (.getfield 7, 3) := by decide +kernel
theorem dX10_overOf_4 : decode cX10_overOf 4 = .ok (.iload_n 1, 1) := by decide +kernel
theorem dX10_overOf_5 : decode cX10_overOf 5 = .ok (.iaload, 1) := by decide +kernel
theorem dX10_overOf_6 : decode cX10_overOf 6 = .ok (.aload_n 0, 1) := by decide +kernel
theorem dX10_overOf_7 : decode cX10_overOf 7 = .ok (.getfield 29, 3) := by decide +kernel
theorem dX10_overOf_10 : decode cX10_overOf 10 = .ok (.iconst 1, 1) := by decide +kernel
theorem dX10_overOf_11 : decode cX10_overOf 11 = .ok (.iaload, 1) := by decide +kernel
theorem dX10_overOf_12 : decode cX10_overOf 12 = .ok (.iadd, 1) := by decide +kernel
theorem dX10_overOf_13 : decode cX10_overOf 13 = .ok (.istore_n 2, 1) := by decide +kernel
theorem dX10_overOf_14 : decode cX10_overOf 14 = .ok (.iload_n 2, 1) := by decide +kernel
theorem dX10_overOf_15 : decode cX10_overOf 15 = .ok (.ifCond .ge 7, 3) := by decide +kernel
theorem dX10_overOf_18 : decode cX10_overOf 18 = .ok (.iconst 0, 1) := by decide +kernel
theorem dX10_overOf_19 : decode cX10_overOf 19 = .ok (.goto 21, 3) := by decide +kernel
theorem dX10_overOf_22 : decode cX10_overOf 22 = .ok (.iload_n 2, 1) := by decide +kernel
theorem dX10_overOf_23 : decode cX10_overOf 23 = .ok (.aload_n 0, 1) := by decide +kernel
theorem dX10_overOf_24 : decode cX10_overOf 24 = .ok (.getfield 99, 3) := by decide +kernel
theorem dX10_overOf_27 : decode cX10_overOf 27 = .ok (.if_icmp .lt 12, 3) := by decide +kernel
theorem dX10_overOf_30 : decode cX10_overOf 30 = .ok (.aload_n 0, 1) := by decide +kernel
theorem dX10_overOf_31 : decode cX10_overOf 31 = .ok (.getfield 99, 3) := by decide +kernel
theorem dX10_overOf_34 : decode cX10_overOf 34 = .ok (.iconst 1, 1) := by decide +kernel
theorem dX10_overOf_35 : decode cX10_overOf 35 = .ok (.isub, 1) := by decide +kernel
theorem dX10_overOf_36 : decode cX10_overOf 36 = .ok (.goto 4, 3) := by decide +kernel
theorem dX10_overOf_39 : decode cX10_overOf 39 = .ok (.iload_n 2, 1) := by decide +kernel
theorem dX10_overOf_40 : decode cX10_overOf 40 = .ok (.ireturn, 1) := by decide +kernel
theorem dX10_isHidden_0 : decode cX10_isHidden 0 = .ok (.iconst 0, 1) := by decide +kernel
theorem dX10_isHidden_1 : decode cX10_isHidden 1 = .ok (.istore_n 3, 1) := by decide +kernel
theorem dX10_isHidden_2 : decode cX10_isHidden 2 = .ok (.iconst 0, 1) := by decide +kernel
theorem dX10_isHidden_3 : decode cX10_isHidden 3 = .ok (.istore 4, 2) := by decide +kernel
theorem dX10_isHidden_5 : decode cX10_isHidden 5 = .ok (.iload 4, 2) := by decide +kernel
theorem dX10_isHidden_7 : decode cX10_isHidden 7 = .ok (.aload_n 0, 1) := by decide +kernel
theorem dX10_isHidden_8 : decode cX10_isHidden 8 = .ok (.getfield 102, 3) := by decide +kernel
theorem dX10_isHidden_11 : decode cX10_isHidden 11 = .ok (.if_icmp .ge 76, 3) := by decide +kernel
theorem dX10_isHidden_14 : decode cX10_isHidden 14 = .ok (.iload_n 3, 1) := by decide +kernel
theorem dX10_isHidden_15 : decode cX10_isHidden 15 = .ok (.ifCond .ne 60, 3) := by decide +kernel
theorem dX10_isHidden_18 : decode cX10_isHidden 18 = .ok (.iload 4, 2) := by decide +kernel
theorem dX10_isHidden_20 : decode cX10_isHidden 20 = .ok (.iload_n 1, 1) := by decide +kernel
theorem dX10_isHidden_21 : decode cX10_isHidden 21 = .ok (.if_icmp .eq 58, 3) := by decide +kernel
theorem dX10_isHidden_24 : decode cX10_isHidden 24 = .ok (.aload_n 0, 1) := by decide +kernel
theorem dX10_isHidden_25 : decode cX10_isHidden 25 = .ok (.getfield 29, 3) := by decide +kernel
theorem dX10_isHidden_28 : decode cX10_isHidden 28 = .ok (.bipush 19, 2) := by decide +kernel
theorem dX10_isHidden_30 : decode cX10_isHidden 30 = .ok (.iload 4, 2) := by decide +kernel
theorem dX10_isHidden_32 : decode cX10_isHidden 32 = .ok (.iadd, 1) := by decide +kernel
theorem dX10_isHidden_33 : decode cX10_isHidden 33 = .ok (.iaload, 1) := by decide +kernel
theorem dX10_isHidden_34 : decode cX10_isHidden 34 = .ok (.iload_n 2, 1) := by decide +kernel
theorem dX10_isHidden_35 : decode cX10_isHidden 35 = .ok (.if_icmp .ne 44, 3) := by decide +kernel
theorem dX10_isHidden_38 : decode cX10_isHidden 38 = .ok (.aload_n 0, 1) := by decide +kernel
theorem dX10_isHidden_39 : decode cX10_isHidden 39 = .ok (.getfield 29, 3) := by decide +kernel
theorem dX10_isHidden_42 : decode cX10_isHidden 42 = .ok (.bipush 11, 2) := by decide +kernel
theorem dX10_isHidden_44 : decode cX10_isHidden 44 = .ok (.iload 4, 2) := by decide +kernel
theorem dX10_isHidden_46 : decode cX10_isHidden 46 = .ok (.iadd, 1) := by decide +kernel
theorem dX10_isHidden_47 : decode cX10_isHidden 47 = .ok (.iaload, 1) := by decide +kernel
theorem dX10_isHidden_48 : decode cX10_isHidden 48 = .ok (.ifCond .lt 31, 3) := by decide +kernel
theorem dX10_isHidden_51 : decode cX10_isHidden 51 = .ok (.aload_n 0, 1) := by decide +kernel
theorem dX10_isHidden_52 : decode cX10_isHidden 52 = .ok (.getfield 29, 3) := by decide +kernel
theorem dX10_isHidden_55 : decode cX10_isHidden 55 = .ok (.iconst 2, 1) := by decide +kernel
theorem dX10_isHidden_56 : decode cX10_isHidden 56 = .ok (.iaload, 1) := by decide +kernel
theorem dX10_isHidden_57 : decode cX10_isHidden 57 = .ok (.aload_n 0, 1) := by decide +kernel
theorem dX10_isHidden_58 : decode cX10_isHidden 58 = .ok (.getfield 29, 3) := by decide +kernel
theorem dX10_isHidden_61 : decode cX10_isHidden 61 = .ok (.bipush 11, 2) := by decide +kernel
theorem dX10_isHidden_63 : decode cX10_isHidden 63 = .ok (.iload 4, 2) := by decide +kernel
theorem dX10_isHidden_65 : decode cX10_isHidden 65 = .ok (.iadd, 1) := by decide +kernel
theorem dX10_isHidden_66 : decode cX10_isHidden 66 = .ok (.iaload, 1) := by decide +kernel
theorem dX10_isHidden_67 : decode cX10_isHidden 67 = .ok (.isub, 1) := by decide +kernel
theorem dX10_isHidden_68 : decode cX10_isHidden 68 = .ok (.aload_n 0, 1) := by decide +kernel
theorem dX10_isHidden_69 : decode cX10_isHidden 69 = .ok (.getfield 22, 3) := by decide +kernel
theorem dX10_isHidden_72 : decode cX10_isHidden 72 = .ok (.if_icmp .gt 7, 3) := by decide +kernel
theorem dX10_isHidden_75 : decode cX10_isHidden 75 = .ok (.iconst 1, 1) := by decide +kernel
theorem dX10_isHidden_76 : decode cX10_isHidden 76 = .ok (.goto 4, 3) := by decide +kernel
theorem dX10_isHidden_79 : decode cX10_isHidden 79 = .ok (.iconst 0, 1) := by decide +kernel
theorem dX10_isHidden_80 : decode cX10_isHidden 80 = .ok (.istore_n 3, 1) := by decide +kernel
theorem dX10_isHidden_81 : decode cX10_isHidden 81 = .ok (.iinc 4 1, 3) := by decide +kernel
theorem dX10_isHidden_84 : decode cX10_isHidden 84 = .ok (.goto (-79), 3) := by decide +kernel
theorem dX10_isHidden_87 : decode cX10_isHidden 87 = .ok (.iload_n 3, 1) := by decide +kernel
theorem dX10_isHidden_88 : decode cX10_isHidden 88 = .ok (.ireturn, 1) := by decide +kernel
theorem dX10_reach_0 : decode cX10_reach 0 = .ok (.aload_n 0, 1) := by decide +kernel
theorem dX10_reach_1 : decode cX10_reach 1 = .ok (.getfield 13, 3) := by decide +kernel
theorem dX10_reach_4 : decode cX10_reach 4 = .ok (.iload_n 1, 1) := by decide +kernel
theorem dX10_reach_5 : decode cX10_reach 5 = .ok (.iaload, 1) := by decide +kernel
theorem dX10_reach_6 : decode cX10_reach 6 = .ok (.iconst 3, 1) := by decide +kernel
theorem dX10_reach_7 : decode cX10_reach 7 = .ok (.iadd, 1) := by decide +kernel
theorem dX10_reach_8 : decode cX10_reach 8 = .ok (.aload_n 0, 1) := by decide +kernel
theorem dX10_reach_9 : decode cX10_reach 9 = .ok (.getfield 29, 3) := by decide +kernel
theorem dX10_reach_12 : decode cX10_reach 12 = .ok (.iconst 0, 1) := by decide +kernel
theorem dX10_reach_13 : decode cX10_reach 13 = .ok (.iaload, 1) := by decide +kernel
theorem dX10_reach_14 : decode cX10_reach 14 = .ok (.iconst 2, 1) := by decide +kernel
theorem dX10_reach_15 : decode cX10_reach 15 = .ok (.idiv, 1) := by decide +kernel
theorem dX10_reach_16 : decode cX10_reach 16 = .ok (.isub, 1) := by decide +kernel
theorem dX10_reach_17 : decode cX10_reach 17 = .ok (.ireturn, 1) := by decide +kernel
theorem dX10_seers_0 : decode cX10_seers 0 = .ok (.aload_n 0, 1) := by decide +kernel
theorem dX10_seers_1 : decode cX10_seers 1 = .ok (.iload_n 1, 1) := by decide +kernel
theorem dX10_seers_2 : decode cX10_seers 2 = .ok (.invokevirtual 214, 3) := by decide +kernel
theorem dX10_seers_5 : decode cX10_seers 5 = .ok (.istore_n 2, 1) := by decide +kernel
theorem dX10_seers_6 : decode cX10_seers 6 = .ok (.iconst 0, 1) := by decide +kernel
theorem dX10_seers_7 : decode cX10_seers 7 = .ok (.istore_n 3, 1) := by decide +kernel
theorem dX10_seers_8 : decode cX10_seers 8 = .ok (.iconst 0, 1) := by decide +kernel
theorem dX10_seers_9 : decode cX10_seers 9 = .ok (.istore 4, 2) := by decide +kernel
theorem dX10_seers_11 : decode cX10_seers 11 = .ok (.iload 4, 2) := by decide +kernel
theorem dX10_seers_13 : decode cX10_seers 13 = .ok (.aload_n 0, 1) := by decide +kernel
theorem dX10_seers_14 : decode cX10_seers 14 = .ok (.getfield 102, 3) := by decide +kernel
theorem dX10_seers_17 : decode cX10_seers 17 = .ok (.if_icmp .ge 45, 3) := by decide +kernel
theorem dX10_seers_20 : decode cX10_seers 20 = .ok (.iload_n 3, 1) := by decide +kernel
theorem dX10_seers_21 : decode cX10_seers 21 = .ok (.iload 4, 2) := by decide +kernel
theorem dX10_seers_23 : decode cX10_seers 23 = .ok (.iload_n 1, 1) := by decide +kernel
theorem dX10_seers_24 : decode cX10_seers 24 = .ok (.if_icmp .eq 29, 3) := by decide +kernel
theorem dX10_seers_27 : decode cX10_seers 27 = .ok (.iload_n 2, 1) := by decide +kernel
theorem dX10_seers_28 : decode cX10_seers 28 = .ok (.aload_n 0, 1) := by decide +kernel
theorem dX10_seers_29 : decode cX10_seers 29 = .ok (.getfield 7, 3) := by decide +kernel
theorem dX10_seers_32 : decode cX10_seers 32 = .ok (.iload 4, 2) := by decide +kernel
theorem dX10_seers_34 : decode cX10_seers 34 = .ok (.iaload, 1) := by decide +kernel
theorem dX10_seers_35 : decode cX10_seers 35 = .ok (.invokestatic 217, 3) := by decide +kernel
theorem dX10_seers_38 : decode cX10_seers 38 = .ok (.aload_n 0, 1) := by decide +kernel
theorem dX10_seers_39 : decode cX10_seers 39 = .ok (.iload_n 1, 1) := by decide +kernel
theorem dX10_seers_40 : decode cX10_seers 40 = .ok (.invokevirtual 220, 3) := by decide +kernel
theorem dX10_seers_43 : decode cX10_seers 43 = .ok (.if_icmp .gt 10, 3) := by decide +kernel
theorem dX10_seers_46 : decode cX10_seers 46 = .ok (.iconst 1, 1) := by decide +kernel
theorem dX10_seers_47 : decode cX10_seers 47 = .ok (.iload 4, 2) := by decide +kernel
theorem dX10_seers_49 : decode cX10_seers 49 = .ok (.ishl, 1) := by decide +kernel
theorem dX10_seers_50 : decode cX10_seers 50 = .ok (.goto 4, 3) := by decide +kernel
theorem dX10_seers_53 : decode cX10_seers 53 = .ok (.iconst 0, 1) := by decide +kernel
theorem dX10_seers_54 : decode cX10_seers 54 = .ok (.ior, 1) := by decide +kernel
theorem dX10_seers_55 : decode cX10_seers 55 = .ok (.istore_n 3, 1) := by decide +kernel
theorem dX10_seers_56 : decode cX10_seers 56 = .ok (.iinc 4 1, 3) := by decide +kernel
theorem dX10_seers_59 : decode cX10_seers 59 = .ok (.goto (-48), 3) := by decide +kernel
theorem dX10_seers_62 : decode cX10_seers 62 = .ok (.aload_n 0, 1) := by decide +kernel
theorem dX10_seers_63 : decode cX10_seers 63 = .ok (.iload_n 1, 1) := by decide +kernel
theorem dX10_seers_64 : decode cX10_seers 64 = .ok (.iload_n 2, 1) := by decide +kernel
theorem dX10_seers_65 : decode cX10_seers 65 = .ok (.invokevirtual 223, 3) := by decide +kernel
theorem dX10_seers_68 : decode cX10_seers 68 = .ok (.ifCond .eq 7, 3) := by decide +kernel
theorem dX10_seers_71 : decode cX10_seers 71 = .ok (.iconst 0, 1) := by decide +kernel
theorem dX10_seers_72 : decode cX10_seers 72 = .ok (.goto 4, 3) := by decide +kernel
theorem dX10_seers_75 : decode cX10_seers 75 = .ok (.iload_n 3, 1) := by decide +kernel
theorem dX10_seers_76 : decode cX10_seers 76 = .ok (.ireturn, 1) := by decide +kernel
theorem dX10_areTwo_0 : decode cX10_areTwo 0 = .ok (.aload_n 0, 1) := by decide +kernel
theorem dX10_areTwo_1 : decode cX10_areTwo 1 = .ok (.iload_n 1, 1) := by decide +kernel
theorem dX10_areTwo_2 : decode cX10_areTwo 2 = .ok (.invokevirtual 204, 3) := by decide +kernel
theorem dX10_areTwo_5 : decode cX10_areTwo 5 = .ok (.ifCond .eq 20, 3) := by decide +kernel
theorem dX10_areTwo_8 : decode cX10_areTwo 8 = .ok (.aload_n 0, 1) := by decide +kernel
theorem dX10_areTwo_9 : decode cX10_areTwo 9 = .ok (.iload_n 2, 1) := by decide +kernel
theorem dX10_areTwo_10 : decode cX10_areTwo 10 = .ok (.invokevirtual 204, 3) := by decide +kernel
theorem dX10_areTwo_13 : decode cX10_areTwo 13 = .ok (.ifCond .eq 12, 3) := by decide +kernel
theorem dX10_areTwo_16 : decode cX10_areTwo 16 = .ok (.iload_n 1, 1) := by decide +kernel
theorem dX10_areTwo_17 : decode cX10_areTwo 17 = .ok (.iload_n 2, 1) := by decide +kernel
theorem dX10_areTwo_18 : decode cX10_areTwo 18 = .ok (.if_icmp .eq 7, 3) := by decide +kernel
theorem dX10_areTwo_21 : decode cX10_areTwo 21 = .ok (.iconst 1, 1) := by decide +kernel
theorem dX10_areTwo_22 : decode cX10_areTwo 22 = .ok (.goto 4, 3) := by decide +kernel
theorem dX10_areTwo_25 : decode cX10_areTwo 25 = .ok (.iconst 0, 1) := by decide +kernel
theorem dX10_areTwo_26 : decode cX10_areTwo 26 = .ok (.ireturn, 1) := by decide +kernel
end
section
theorem dX10_sees_0 : decode cX10_sees 0 = .ok (.aload_n 0, 1) := by decide +kernel
theorem dX10_sees_1 : decode cX10_sees 1 = .ok (.iload_n 1, 1) := by decide +kernel
theorem dX10_sees_2 : decode cX10_sees 2 = .ok (.iload_n 2, 1) := by decide +kernel
theorem dX10_sees_3 : decode cX10_sees 3 = .ok (.invokevirtual 226, 3) := by decide +kernel
theorem dX10_sees_6 : decode cX10_sees 6 = .ok (.ifCond .eq 15, 3) := by decide +kernel
theorem dX10_sees_9 : decode cX10_sees 9 = .ok (.aload_n 0, 1) := by decide +kernel
theorem dX10_sees_10 : decode cX10_sees 10 = .ok (.iload_n 2, 1) := by decide +kernel
theorem dX10_sees_11 : decode cX10_sees 11 = .ok (.invokevirtual 229, 3) := by decide +kernel
theorem dX10_sees_14 : decode cX10_sees 14 = .ok (.iload_n 1, 1) := by decide +kernel
theorem dX10_sees_15 : decode cX10_sees 15 = .ok (.ishr, 1) := by decide +kernel
theorem dX10_sees_16 : decode cX10_sees 16 = .ok (.iconst 1, 1) := by decide +kernel
theorem dX10_sees_17 : decode cX10_sees 17 = .ok (.iand, 1) := by decide +kernel
theorem dX10_sees_18 : decode cX10_sees 18 = .ok (.goto 5, 3) := by decide +kernel
theorem dX10_sees_21 : decode cX10_sees 21 = .ok (.ldc 207, 2) := by decide +kernel
theorem dX10_sees_23 : decode cX10_sees 23 = .ok (.ireturn, 1) := by decide +kernel
theorem dX10_contract_0 : decode cX10_contract 0 = .ok (.aload_n 0, 1) := by decide +kernel
theorem dX10_contract_1 : decode cX10_contract 1 = .ok (.iload_n 1, 1) := by decide +kernel
theorem dX10_contract_2 : decode cX10_contract 2 = .ok (.iload_n 2, 1) := by decide +kernel
theorem dX10_contract_3 : decode cX10_contract 3 = .ok (.invokevirtual 226, 3) := by decide +kernel
theorem dX10_contract_6 : decode cX10_contract 6 = .ok (.ifCond .ne 6, 3) := by decide +kernel
theorem dX10_contract_9 : decode cX10_contract 9 = .ok (.ldc 207, 2) := by decide +kernel
theorem dX10_contract_11 : decode cX10_contract 11 = .ok (.ireturn, 1) := by decide +kernel
theorem dX10_contract_12 : decode cX10_contract 12 = .ok (.aload_n 0, 1) := by decide +kernel
theorem dX10_contract_13 : decode cX10_contract 13 = .ok (.getfield 29, 3) := by decide +kernel
theorem dX10_contract_16 : decode cX10_contract 16 = .ok (.bipush 35, 2) := by decide +kernel
theorem dX10_contract_18 : decode cX10_contract 18 = .ok (.iload_n 1, 1) := by decide +kernel
theorem dX10_contract_19 : decode cX10_contract 19 = .ok (.iadd, 1) := by decide +kernel
theorem dX10_contract_20 : decode cX10_contract 20 = .ok (.iaload, 1) := by decide +kernel
theorem dX10_contract_21 : decode cX10_contract 21 = .ok (.iload_n 2, 1) := by decide +kernel
theorem dX10_contract_22 : decode cX10_contract 22 = .ok (.invokestatic 194, 3) := by decide +kernel
theorem dX10_contract_25 : decode cX10_contract 25 = .ok (.ifCond .ne 7, 3) := by decide +kernel
theorem dX10_contract_28 : decode cX10_contract 28 = .ok (.iconst 0, 1) := by decide +kernel
theorem dX10_contract_29 : decode cX10_contract 29 = .ok (.goto 24, 3) := by decide +kernel
theorem dX10_contract_32 : decode cX10_contract 32 = .ok (.aload_n 0, 1) := by decide +kernel
theorem dX10_contract_33 : decode cX10_contract 33 = .ok (.iload_n 1, 1) := by decide +kernel
theorem dX10_contract_34 : decode cX10_contract 34 = .ok (.invokevirtual 197, 3) := by decide +kernel
theorem dX10_contract_37 : decode cX10_contract 37 = .ok (.ifCond .ne 11, 3) := by decide +kernel
theorem dX10_contract_40 : decode cX10_contract 40 = .ok (.aload_n 0, 1) := by decide +kernel
theorem dX10_contract_41 : decode cX10_contract 41 = .ok (.iload_n 2, 1) := by decide +kernel
theorem dX10_contract_42 : decode cX10_contract 42 = .ok (.invokevirtual 197, 3) := by decide +kernel
theorem dX10_contract_45 : decode cX10_contract 45 = .ok (.ifCond .eq 7, 3) := by decide +kernel
theorem dX10_contract_48 : decode cX10_contract 48 = .ok (.iconst 2, 1) := by decide +kernel
theorem dX10_contract_49 : decode cX10_contract 49 = .ok (.goto 4, 3) := by decide +kernel
theorem dX10_contract_52 : decode cX10_contract 52 = .ok (.iconst 1, 1) := by decide +kernel
theorem dX10_contract_53 : decode cX10_contract 53 = .ok (.ireturn, 1) := by decide +kernel
theorem dX10_remember_0 : decode cX10_remember 0 = .ok (.aload_n 0, 1) := by decide +kernel
theorem dX10_remember_1 : decode cX10_remember 1 = .ok (.getfield 191, 3) := by decide +kernel
theorem dX10_remember_4 : decode cX10_remember 4 = .ok (.bipush 20, 2) := by decide +kernel
theorem dX10_remember_6 : decode cX10_remember 6 = .ok (.if_icmp .ne 44, 3) := by decide +kernel
theorem dX10_remember_9 : decode cX10_remember 9 = .ok (.bipush 43, 2) := by decide +kernel
theorem dX10_remember_11 : decode cX10_remember 11 = .ok (.istore_n 1, 1) := by decide +kernel
theorem dX10_remember_12 : decode cX10_remember 12 = .ok (.iload_n 1, 1) := by decide +kernel
theorem dX10_remember_13 : decode cX10_remember 13 = .ok (.sipush 860, 3) := by decide +kernel
theorem dX10_remember_16 : decode cX10_remember 16 = .ok (.if_icmp .ge 24, 3) := by decide +kernel
theorem dX10_remember_19 : decode cX10_remember 19 = .ok (.aload_n 0, 1) := by decide +kernel
theorem dX10_remember_20 : decode cX10_remember 20 = .ok (.getfield 62, 3) := by decide +kernel
theorem dX10_remember_23 : decode cX10_remember 23 = .ok (.iload_n 1, 1) := by decide +kernel
theorem dX10_remember_24 : decode cX10_remember 24 = .ok (.bipush 43, 2) := by decide +kernel
theorem dX10_remember_26 : decode cX10_remember 26 = .ok (.isub, 1) := by decide +kernel
theorem dX10_remember_27 : decode cX10_remember 27 = .ok (.aload_n 0, 1) := by decide +kernel
theorem dX10_remember_28 : decode cX10_remember 28 = .ok (.getfield 62, 3) := by decide +kernel
theorem dX10_remember_31 : decode cX10_remember 31 = .ok (.iload_n 1, 1) := by decide +kernel
theorem dX10_remember_32 : decode cX10_remember 32 = .ok (.iaload, 1) := by decide +kernel
theorem dX10_remember_33 : decode cX10_remember 33 = .ok (.iastore, 1) := by decide +kernel
theorem dX10_remember_34 : decode cX10_remember 34 = .ok (.iinc 1 1, 3) := by decide +kernel
theorem dX10_remember_37 : decode cX10_remember 37 = .ok (.goto (-25), 3) := by decide +kernel
theorem dX10_remember_40 : decode cX10_remember 40 = .ok (.aload_n 0, 1) := by decide +kernel
theorem dX10_remember_41 : decode cX10_remember 41 = .ok (.dup, 1) := by decide +kernel
theorem dX10_remember_42 : decode cX10_remember 42 = .ok (.getfield 191, 3) := by decide +kernel
theorem dX10_remember_45 : decode cX10_remember 45 = .ok (.iconst 1, 1) := by decide +kernel
theorem dX10_remember_46 : decode cX10_remember 46 = .ok (.isub, 1) := by decide +kernel
theorem dX10_remember_47 : decode cX10_remember 47 = .ok (.putfield 191, 3) := by decide +kernel
theorem dX10_remember_50 : decode cX10_remember 50 = .ok (.iconst 0, 1) := by decide +kernel
theorem dX10_remember_51 : decode cX10_remember 51 = .ok (.istore_n 1, 1) := by decide +kernel
theorem dX10_remember_52 : decode cX10_remember 52 = .ok (.iload_n 1, 1) := by decide +kernel
theorem dX10_remember_53 : decode cX10_remember 53 = .ok (.bipush 43, 2) := by decide +kernel
theorem dX10_remember_55 : decode cX10_remember 55 = .ok (.if_icmp .ge 29, 3) := by decide +kernel
theorem dX10_remember_58 : decode cX10_remember 58 = .ok (.aload_n 0, 1) := by decide +kernel
theorem dX10_remember_59 : decode cX10_remember 59 = .ok (.getfield 62, 3) := by decide +kernel
theorem dX10_remember_62 : decode cX10_remember 62 = .ok (.bipush 43, 2) := by decide +kernel
theorem dX10_remember_64 : decode cX10_remember 64 = .ok (.aload_n 0, 1) := by decide +kernel
theorem dX10_remember_65 : decode cX10_remember 65 = .ok (.getfield 191, 3) := by decide +kernel
theorem dX10_remember_68 : decode cX10_remember 68 = .ok (.imul, 1) := by decide +kernel
theorem dX10_remember_69 : decode cX10_remember 69 = .ok (.iload_n 1, 1) := by decide +kernel
theorem dX10_remember_70 : decode cX10_remember 70 = .ok (.iadd, 1) := by decide +kernel
theorem dX10_remember_71 : decode cX10_remember 71 = .ok (.aload_n 0, 1) := by decide +kernel
theorem dX10_remember_72 : decode cX10_remember 72 = .ok (.getfield 29, 3) := by decide +kernel
theorem dX10_remember_75 : decode cX10_remember 75 = .ok (.iload_n 1, 1) := by decide +kernel
theorem dX10_remember_76 : decode cX10_remember 76 = .ok (.iaload, 1) := by decide +kernel
theorem dX10_remember_77 : decode cX10_remember 77 = .ok (.iastore, 1) := by decide +kernel
theorem dX10_remember_78 : decode cX10_remember 78 = .ok (.iinc 1 1, 3) := by decide +kernel
theorem dX10_remember_81 : decode cX10_remember 81 = .ok (.goto (-29), 3) := by decide +kernel
theorem dX10_remember_84 : decode cX10_remember 84 = .ok (.aload_n 0, 1) := by decide +kernel
theorem dX10_remember_85 : decode cX10_remember 85 = .ok (.dup, 1) := by decide +kernel
theorem dX10_remember_86 : decode cX10_remember 86 = .ok (.getfield 191, 3) := by decide +kernel
theorem dX10_remember_89 : decode cX10_remember 89 = .ok (.iconst 1, 1) := by decide +kernel
theorem dX10_remember_90 : decode cX10_remember 90 = .ok (.iadd, 1) := by decide +kernel
theorem dX10_remember_91 : decode cX10_remember 91 = .ok (.putfield 191, 3) := by decide +kernel
theorem dX10_remember_94 : decode cX10_remember 94 = .ok (.return_, 1) := by decide +kernel
theorem dX10_holds_0 : decode cX10_holds 0 = .ok (.aload_n 0, 1) := by decide +kernel
theorem dX10_holds_1 : decode cX10_holds 1 = .ok (.iload_n 1, 1) := by decide +kernel
theorem dX10_holds_2 : decode cX10_holds 2 = .ok (.invokevirtual 211, 3) := by decide +kernel
theorem dX10_holds_5 : decode cX10_holds 5 = .ok (.istore_n 3, 1) := by decide +kernel
theorem dX10_holds_6 : decode cX10_holds 6 = .ok (.aload_n 0, 1) := by decide +kernel
theorem dX10_holds_7 : decode cX10_holds 7 = .ok (.iload_n 2, 1) := by decide +kernel
theorem dX10_holds_8 : decode cX10_holds 8 = .ok (.invokevirtual 211, 3) := by decide +kernel
theorem dX10_holds_11 : decode cX10_holds 11 = .ok (.istore 4, 2) := by decide +kernel
theorem dX10_holds_13 : decode cX10_holds 13 = .ok (.aload_n 0, 1) := by decide +kernel
theorem dX10_holds_14 : decode cX10_holds 14 = .ok (.getfield 29, 3) := by decide +kernel
theorem dX10_holds_17 : decode cX10_holds 17 = .ok (.bipush 27, 2) := by decide +kernel
theorem dX10_holds_19 : decode cX10_holds 19 = .ok (.iload_n 1, 1) := by decide +kernel
theorem dX10_holds_20 : decode cX10_holds 20 = .ok (.iadd, 1) := by decide +kernel
theorem dX10_holds_21 : decode cX10_holds 21 = .ok (.iaload, 1) := by decide +kernel
theorem dX10_holds_22 : decode cX10_holds 22 = .ok (.aload_n 0, 1) := by decide +kernel
theorem dX10_holds_23 : decode cX10_holds 23 = .ok (.getfield 29, 3) := by decide +kernel
theorem dX10_holds_26 : decode cX10_holds 26 = .ok (.bipush 27, 2) := by decide +kernel
theorem dX10_holds_28 : decode cX10_holds 28 = .ok (.iload_n 2, 1) := by decide +kernel
theorem dX10_holds_29 : decode cX10_holds 29 = .ok (.iadd, 1) := by decide +kernel
theorem dX10_holds_30 : decode cX10_holds 30 = .ok (.iaload, 1) := by decide +kernel
theorem dX10_holds_31 : decode cX10_holds 31 = .ok (.iand, 1) := by decide +kernel
theorem dX10_holds_32 : decode cX10_holds 32 = .ok (.iconst 1, 1) := by decide +kernel
theorem dX10_holds_33 : decode cX10_holds 33 = .ok (.iload_n 1, 1) := by decide +kernel
theorem dX10_holds_34 : decode cX10_holds 34 = .ok (.ishl, 1) := by decide +kernel
theorem dX10_holds_35 : decode cX10_holds 35 = .ok (.iconst 1, 1) := by decide +kernel
theorem dX10_holds_36 : decode cX10_holds 36 = .ok (.iload_n 2, 1) := by decide +kernel
theorem dX10_holds_37 : decode cX10_holds 37 = .ok (.ishl, 1) := by decide +kernel
theorem dX10_holds_38 : decode cX10_holds 38 = .ok (.ior, 1) := by decide +kernel
theorem dX10_holds_39 : decode cX10_holds 39 = .ok (.iconst 1, 1) := by decide +kernel
theorem dX10_holds_40 : decode cX10_holds 40 = .ok (.iload_n 3, 1) := by decide +kernel
theorem dX10_holds_41 : decode cX10_holds 41 = .ok (.ishl, 1) := by decide +kernel
theorem dX10_holds_42 : decode cX10_holds 42 = .ok (.ior, 1) := by decide +kernel
theorem dX10_holds_43 : decode cX10_holds 43 = .ok (.iconst 1, 1) := by decide +kernel
theorem dX10_holds_44 : decode cX10_holds 44 = .ok (.iload 4, 2) := by decide +kernel
theorem dX10_holds_46 : decode cX10_holds 46 = .ok (.ishl, 1) := by decide +kernel
theorem dX10_holds_47 : decode cX10_holds 47 = .ok (.ior, 1) := by decide +kernel
theorem dX10_holds_48 : decode cX10_holds 48 = .ok (.iconst (-1), 1) := by decide +kernel
theorem dX10_holds_49 : decode cX10_holds 49 = .ok (.ixor, 1) := by decide +kernel
theorem dX10_holds_50 : decode cX10_holds 50 = .ok (.iand, 1) := by decide +kernel
theorem dX10_holds_51 : decode cX10_holds 51 = .ok (.istore 5, 2) := by decide +kernel
theorem dX10_holds_53 : decode cX10_holds 53 = .ok (.iload 5, 2) := by decide +kernel
theorem dX10_holds_55 : decode cX10_holds 55 = .ok (.ifCond .eq 26, 3) := by decide +kernel
theorem dX10_holds_58 : decode cX10_holds 58 = .ok (.iload_n 3, 1) := by decide +kernel
theorem dX10_holds_59 : decode cX10_holds 59 = .ok (.iload 4, 2) := by decide +kernel
theorem dX10_holds_61 : decode cX10_holds 61 = .ok (.if_icmp .eq 20, 3) := by decide +kernel
theorem dX10_holds_64 : decode cX10_holds 64 = .ok (.aload_n 0, 1) := by decide +kernel
theorem dX10_holds_65 : decode cX10_holds 65 = .ok (.getfield 29, 3) := by decide +kernel
theorem dX10_holds_68 : decode cX10_holds 68 = .ok (.bipush 35, 2) := by decide +kernel
theorem dX10_holds_70 : decode cX10_holds 70 = .ok (.iload_n 3, 1) := by decide +kernel
theorem dX10_holds_71 : decode cX10_holds 71 = .ok (.iadd, 1) := by decide +kernel
theorem dX10_holds_72 : decode cX10_holds 72 = .ok (.iaload, 1) := by decide +kernel
theorem dX10_holds_73 : decode cX10_holds 73 = .ok (.iload 4, 2) := by decide +kernel
theorem dX10_holds_75 : decode cX10_holds 75 = .ok (.invokestatic 194, 3) := by decide +kernel
theorem dX10_holds_78 : decode cX10_holds 78 = .ok (.ifCond .eq 5, 3) := by decide +kernel
theorem dX10_holds_81 : decode cX10_holds 81 = .ok (.iconst 0, 1) := by decide +kernel
theorem dX10_holds_82 : decode cX10_holds 82 = .ok (.ireturn, 1) := by decide +kernel
theorem dX10_holds_83 : decode cX10_holds 83 = .ok (.aload_n 0, 1) := by decide +kernel
theorem dX10_holds_84 : decode cX10_holds 84 = .ok (.getfield 29, 3) := by decide +kernel
theorem dX10_holds_87 : decode cX10_holds 87 = .ok (.bipush 35, 2) := by decide +kernel
theorem dX10_holds_89 : decode cX10_holds 89 = .ok (.iload_n 3, 1) := by decide +kernel
theorem dX10_holds_90 : decode cX10_holds 90 = .ok (.iadd, 1) := by decide +kernel
theorem dX10_holds_91 : decode cX10_holds 91 = .ok (.dup2, 1) := by decide +kernel
theorem dX10_holds_92 : decode cX10_holds 92 = .ok (.iaload, 1) := by decide +kernel
theorem dX10_holds_93 : decode cX10_holds 93 = .ok (.iconst 1, 1) := by decide +kernel
theorem dX10_holds_94 : decode cX10_holds 94 = .ok (.iload 4, 2) := by decide +kernel
theorem dX10_holds_96 : decode cX10_holds 96 = .ok (.ishl, 1) := by decide +kernel
theorem dX10_holds_97 : decode cX10_holds 97 = .ok (.ior, 1) := by decide +kernel
theorem dX10_holds_98 : decode cX10_holds 98 = .ok (.iastore, 1) := by decide +kernel
theorem dX10_holds_99 : decode cX10_holds 99 = .ok (.aload_n 0, 1) := by decide +kernel
theorem dX10_holds_100 : decode cX10_holds 100 = .ok (.getfield 29, 3) := by decide +kernel
theorem dX10_holds_103 : decode cX10_holds 103 = .ok (.bipush 35, 2) := by decide +kernel
theorem dX10_holds_105 : decode cX10_holds 105 = .ok (.iload 4, 2) := by decide +kernel
theorem dX10_holds_107 : decode cX10_holds 107 = .ok (.iadd, 1) := by decide +kernel
theorem dX10_holds_108 : decode cX10_holds 108 = .ok (.dup2, 1) := by decide +kernel
theorem dX10_holds_109 : decode cX10_holds 109 = .ok (.iaload, 1) := by decide +kernel
theorem dX10_holds_110 : decode cX10_holds 110 = .ok (.iconst 1, 1) := by decide +kernel
theorem dX10_holds_111 : decode cX10_holds 111 = .ok (.iload_n 3, 1) := by decide +kernel
theorem dX10_holds_112 : decode cX10_holds 112 = .ok (.ishl, 1) := by decide +kernel
theorem dX10_holds_113 : decode cX10_holds 113 = .ok (.ior, 1) := by decide +kernel
theorem dX10_holds_114 : decode cX10_holds 114 = .ok (.iastore, 1) := by decide +kernel
theorem dX10_holds_115 : decode cX10_holds 115 = .ok (.iconst 1, 1) := by decide +kernel
theorem dX10_holds_116 : decode cX10_holds 116 = .ok (.ireturn, 1) := by decide +kernel
theorem dX10_lightNow_0 : decode cX10_lightNow 0 = .ok (.aload_n 0, 1) := by decide +kernel
theorem dX10_lightNow_1 : decode cX10_lightNow 1 = .ok (.iload_n 1, 1) := by decide +kernel
theorem dX10_lightNow_2 : decode cX10_lightNow 2 = .ok (.invokevirtual 229, 3) := by decide +kernel
theorem dX10_lightNow_5 : decode cX10_lightNow 5 = .ok (.istore_n 2, 1) := by decide +kernel
theorem dX10_lightNow_6 : decode cX10_lightNow 6 = .ok (.aload_n 0, 1) := by decide +kernel
theorem dX10_lightNow_7 : decode cX10_lightNow 7 = .ok (.getfield 29, 3) := by decide +kernel
theorem dX10_lightNow_10 : decode cX10_lightNow 10 = .ok (.bipush 19, 2) := by decide +kernel
theorem dX10_lightNow_12 : decode cX10_lightNow 12 = .ok (.iload_n 1, 1) := by decide +kernel
theorem dX10_lightNow_13 : decode cX10_lightNow 13 = .ok (.iadd, 1) := by decide +kernel
theorem dX10_lightNow_14 : decode cX10_lightNow 14 = .ok (.aload_n 0, 1) := by decide +kernel
theorem dX10_lightNow_15 : decode cX10_lightNow 15 = .ok (.iload_n 1, 1) := by decide +kernel
theorem dX10_lightNow_16 : decode cX10_lightNow 16 = .ok (.invokevirtual 214, 3) := by decide +kernel
theorem dX10_lightNow_19 : decode cX10_lightNow 19 = .ok (.iastore, 1) := by decide +kernel
theorem dX10_lightNow_20 : decode cX10_lightNow 20 = .ok (.aload_n 0, 1) := by decide +kernel
theorem dX10_lightNow_21 : decode cX10_lightNow 21 = .ok (.getfield 29, 3) := by decide +kernel
theorem dX10_lightNow_24 : decode cX10_lightNow 24 = .ok (.bipush 11, 2) := by decide +kernel
theorem dX10_lightNow_26 : decode cX10_lightNow 26 = .ok (.iload_n 1, 1) := by decide +kernel
theorem dX10_lightNow_27 : decode cX10_lightNow 27 = .ok (.iadd, 1) := by decide +kernel
theorem dX10_lightNow_28 : decode cX10_lightNow 28 = .ok (.aload_n 0, 1) := by decide +kernel
theorem dX10_lightNow_29 : decode cX10_lightNow 29 = .ok (.getfield 29, 3) := by decide +kernel
theorem dX10_lightNow_32 : decode cX10_lightNow 32 = .ok (.iconst 2, 1) := by decide +kernel
theorem dX10_lightNow_33 : decode cX10_lightNow 33 = .ok (.iaload, 1) := by decide +kernel
theorem dX10_lightNow_34 : decode cX10_lightNow 34 = .ok (.iastore, 1) := by decide +kernel
theorem dX10_lightNow_35 : decode cX10_lightNow 35 = .ok (.aload_n 0, 1) := by decide +kernel
theorem dX10_lightNow_36 : decode cX10_lightNow 36 = .ok (.getfield 29, 3) := by decide +kernel
theorem dX10_lightNow_39 : decode cX10_lightNow 39 = .ok (.bipush 27, 2) := by decide +kernel
theorem dX10_lightNow_41 : decode cX10_lightNow 41 = .ok (.iload_n 1, 1) := by decide +kernel
theorem dX10_lightNow_42 : decode cX10_lightNow 42 = .ok (.iadd, 1) := by decide +kernel
theorem dX10_lightNow_43 : decode cX10_lightNow 43 = .ok (.iload_n 2, 1) := by decide +kernel
theorem dX10_lightNow_44 : decode cX10_lightNow 44 = .ok (.iastore, 1) := by decide +kernel
theorem dX10_lightNow_45 : decode cX10_lightNow 45 = .ok (.return_, 1) := by decide +kernel
theorem dX10_light_0 : decode cX10_light 0 = .ok (.aload_n 0, 1) := by decide +kernel
theorem dX10_light_1 : decode cX10_light 1 = .ok (.iload_n 1, 1) := by decide +kernel
theorem dX10_light_2 : decode cX10_light 2 = .ok (.invokevirtual 204, 3) := by decide +kernel
theorem dX10_light_5 : decode cX10_light 5 = .ok (.ifCond .ne 6, 3) := by decide +kernel
theorem dX10_light_8 : decode cX10_light 8 = .ok (.ldc 207, 2) := by decide +kernel
theorem dX10_light_10 : decode cX10_light 10 = .ok (.ireturn, 1) := by decide +kernel
theorem dX10_light_11 : decode cX10_light 11 = .ok (.aload_n 0, 1) := by decide +kernel
theorem dX10_light_12 : decode cX10_light 12 = .ok (.getfield 29, 3) := by decide +kernel
theorem dX10_light_15 : decode cX10_light 15 = .ok (.iconst 3, 1) := by decide +kernel
theorem dX10_light_16 : decode cX10_light 16 = .ok (.iload_n 1, 1) := by decide +kernel
theorem dX10_light_17 : decode cX10_light 17 = .ok (.iadd, 1) := by decide +kernel
theorem dX10_light_18 : decode cX10_light 18 = .ok (.iaload, 1) := by decide +kernel
theorem dX10_light_19 : decode cX10_light 19 = .ok (.ifCond .eq 21, 3) := by decide +kernel
theorem dX10_light_22 : decode cX10_light 22 = .ok (.aload_n 0, 1) := by decide +kernel
theorem dX10_light_23 : decode cX10_light 23 = .ok (.getfield 29, 3) := by decide +kernel
theorem dX10_light_26 : decode cX10_light 26 = .ok (.bipush 11, 2) := by decide +kernel
theorem dX10_light_28 : decode cX10_light 28 = .ok (.iload_n 1, 1) := by decide +kernel
theorem dX10_light_29 : decode cX10_light 29 = .ok (.iadd, 1) := by decide +kernel
theorem dX10_light_30 : decode cX10_light 30 = .ok (.iaload, 1) := by decide +kernel
theorem dX10_light_31 : decode cX10_light 31 = .ok (.aload_n 0, 1) := by decide +kernel
theorem dX10_light_32 : decode cX10_light 32 = .ok (.getfield 29, 3) := by decide +kernel
theorem dX10_light_35 : decode cX10_light 35 = .ok (.iconst 2, 1) := by decide +kernel
theorem dX10_light_36 : decode cX10_light 36 = .ok (.iaload, 1) := by decide +kernel
theorem dX10_light_37 : decode cX10_light 37 = .ok (.if_icmp .ne 6, 3) := by decide +kernel
theorem dX10_light_40 : decode cX10_light 40 = .ok (.ldc 232, 2) := by decide +kernel
theorem dX10_light_42 : decode cX10_light 42 = .ok (.ireturn, 1) := by decide +kernel
theorem dX10_light_43 : decode cX10_light 43 = .ok (.aload_n 0, 1) := by decide +kernel
theorem dX10_light_44 : decode cX10_light 44 = .ok (.invokevirtual 233, 3) := by decide +kernel
theorem dX10_light_47 : decode cX10_light 47 = .ok (.aload_n 0, 1) := by decide +kernel
theorem dX10_light_48 : decode cX10_light 48 = .ok (.getfield 29, 3) := by decide +kernel
theorem dX10_light_51 : decode cX10_light 51 = .ok (.iconst 3, 1) := by decide +kernel
theorem dX10_light_52 : decode cX10_light 52 = .ok (.iload_n 1, 1) := by decide +kernel
theorem dX10_light_53 : decode cX10_light 53 = .ok (.iadd, 1) := by decide +kernel
theorem dX10_light_54 : decode cX10_light 54 = .ok (.dup2, 1) := by decide +kernel
theorem dX10_light_55 : decode cX10_light 55 = .ok (.iaload, 1) := by decide +kernel
theorem dX10_light_56 : decode cX10_light 56 = .ok (.iconst 1, 1) := by decide +kernel
theorem dX10_light_57 : decode cX10_light 57 = .ok (.isub, 1) := by decide +kernel
theorem dX10_light_58 : decode cX10_light 58 = .ok (.iastore, 1) := by decide +kernel
theorem dX10_light_59 : decode cX10_light 59 = .ok (.aload_n 0, 1) := by decide +kernel
theorem dX10_light_60 : decode cX10_light 60 = .ok (.iload_n 1, 1) := by decide +kernel
theorem dX10_light_61 : decode cX10_light 61 = .ok (.invokevirtual 236, 3) := by decide +kernel
theorem dX10_light_64 : decode cX10_light 64 = .ok (.iconst 0, 1) := by decide +kernel
theorem dX10_light_65 : decode cX10_light 65 = .ok (.istore_n 2, 1) := by decide +kernel
theorem dX10_light_66 : decode cX10_light 66 = .ok (.iconst 0, 1) := by decide +kernel
theorem dX10_light_67 : decode cX10_light 67 = .ok (.istore_n 3, 1) := by decide +kernel
theorem dX10_light_68 : decode cX10_light 68 = .ok (.iload_n 3, 1) := by decide +kernel
theorem dX10_light_69 : decode cX10_light 69 = .ok (.aload_n 0, 1) := by decide +kernel
theorem dX10_light_70 : decode cX10_light 70 = .ok (.getfield 102, 3) := by decide +kernel
theorem dX10_light_73 : decode cX10_light 73 = .ok (.if_icmp .ge 75, 3) := by decide +kernel
theorem dX10_light_76 : decode cX10_light 76 = .ok (.iload_n 3, 1) := by decide +kernel
theorem dX10_light_77 : decode cX10_light 77 = .ok (.iload_n 1, 1) := by decide +kernel
theorem dX10_light_78 : decode cX10_light 78 = .ok (.if_icmp .eq 39, 3) := by decide +kernel
theorem dX10_light_81 : decode cX10_light 81 = .ok (.aload_n 0, 1) := by decide +kernel
theorem dX10_light_82 : decode cX10_light 82 = .ok (.getfield 29, 3) := by decide +kernel
theorem dX10_light_85 : decode cX10_light 85 = .ok (.bipush 11, 2) := by decide +kernel
theorem dX10_light_87 : decode cX10_light 87 = .ok (.iload_n 3, 1) := by decide +kernel
theorem dX10_light_88 : decode cX10_light 88 = .ok (.iadd, 1) := by decide +kernel
theorem dX10_light_89 : decode cX10_light 89 = .ok (.iaload, 1) := by decide +kernel
theorem dX10_light_90 : decode cX10_light 90 = .ok (.ifCond .lt 27, 3) := by decide +kernel
theorem dX10_light_93 : decode cX10_light 93 = .ok (.aload_n 0, 1) := by decide +kernel
theorem dX10_light_94 : decode cX10_light 94 = .ok (.getfield 29, 3) := by decide +kernel
theorem dX10_light_97 : decode cX10_light 97 = .ok (.iconst 2, 1) := by decide +kernel
theorem dX10_light_98 : decode cX10_light 98 = .ok (.iaload, 1) := by decide +kernel
theorem dX10_light_99 : decode cX10_light 99 = .ok (.aload_n 0, 1) := by decide +kernel
theorem dX10_light_100 : decode cX10_light 100 = .ok (.getfield 29, 3) := by decide +kernel
theorem dX10_light_103 : decode cX10_light 103 = .ok (.bipush 11, 2) := by decide +kernel
theorem dX10_light_105 : decode cX10_light 105 = .ok (.iload_n 3, 1) := by decide +kernel
theorem dX10_light_106 : decode cX10_light 106 = .ok (.iadd, 1) := by decide +kernel
theorem dX10_light_107 : decode cX10_light 107 = .ok (.iaload, 1) := by decide +kernel
theorem dX10_light_108 : decode cX10_light 108 = .ok (.isub, 1) := by decide +kernel
theorem dX10_light_109 : decode cX10_light 109 = .ok (.iconst 1, 1) := by decide +kernel
theorem dX10_light_110 : decode cX10_light 110 = .ok (.if_icmp .gt 7, 3) := by decide +kernel
theorem dX10_light_113 : decode cX10_light 113 = .ok (.iconst 1, 1) := by decide +kernel
theorem dX10_light_114 : decode cX10_light 114 = .ok (.goto 4, 3) := by decide +kernel
theorem dX10_light_117 : decode cX10_light 117 = .ok (.iconst 0, 1) := by decide +kernel
theorem dX10_light_118 : decode cX10_light 118 = .ok (.istore 4, 2) := by decide +kernel
theorem dX10_light_120 : decode cX10_light 120 = .ok (.iload_n 2, 1) := by decide +kernel
theorem dX10_light_121 : decode cX10_light 121 = .ok (.iload 4, 2) := by decide +kernel
theorem dX10_light_123 : decode cX10_light 123 = .ok (.ifCond .eq 16, 3) := by decide +kernel
theorem dX10_light_126 : decode cX10_light 126 = .ok (.aload_n 0, 1) := by decide +kernel
theorem dX10_light_127 : decode cX10_light 127 = .ok (.iload_n 1, 1) := by decide +kernel
theorem dX10_light_128 : decode cX10_light 128 = .ok (.iload_n 3, 1) := by decide +kernel
theorem dX10_light_129 : decode cX10_light 129 = .ok (.invokevirtual 240, 3) := by decide +kernel
theorem dX10_light_132 : decode cX10_light 132 = .ok (.ifCond .eq 7, 3) := by decide +kernel
theorem dX10_light_135 : decode cX10_light 135 = .ok (.iconst 1, 1) := by decide +kernel
theorem dX10_light_136 : decode cX10_light 136 = .ok (.goto 4, 3) := by decide +kernel
theorem dX10_light_139 : decode cX10_light 139 = .ok (.iconst 0, 1) := by decide +kernel
theorem dX10_light_140 : decode cX10_light 140 = .ok (.iadd, 1) := by decide +kernel
theorem dX10_light_141 : decode cX10_light 141 = .ok (.istore_n 2, 1) := by decide +kernel
theorem dX10_light_142 : decode cX10_light 142 = .ok (.iinc 3 1, 3) := by decide +kernel
theorem dX10_light_145 : decode cX10_light 145 = .ok (.goto (-77), 3) := by decide +kernel
theorem dX10_light_148 : decode cX10_light 148 = .ok (.iload_n 2, 1) := by decide +kernel
theorem dX10_light_149 : decode cX10_light 149 = .ok (.ireturn, 1) := by decide +kernel
theorem dX10_minutesRefused_0 : decode cX10_minutesRefused 0 = .ok (.iload_n 1, 1) := by decide +kernel
theorem dX10_minutesRefused_1 : decode cX10_minutesRefused 1 = .ok (.i2l, 1) := by decide +kernel
theorem dX10_minutesRefused_2 : decode cX10_minutesRefused 2 = .ok (.lconst 1, 1) := by decide +kernel
theorem dX10_minutesRefused_3 : decode cX10_minutesRefused 3 = .ok (.ldc2_w 243, 3) := by decide +kernel
theorem dX10_minutesRefused_6 : decode cX10_minutesRefused 6 = .ok (.invokestatic 105, 3) := by decide +kernel
theorem dX10_minutesRefused_9 : decode cX10_minutesRefused 9 = .ok (.ifCond .ne 6, 3) := by decide +kernel
theorem dX10_minutesRefused_12 : decode cX10_minutesRefused 12 = .ok (.ldc 111, 2) := by decide +kernel
theorem dX10_minutesRefused_14 : decode cX10_minutesRefused 14 = .ok (.ireturn, 1) := by decide +kernel
theorem dX10_minutesRefused_15 : decode cX10_minutesRefused 15 = .ok (.aload_n 0, 1) := by decide +kernel
theorem dX10_minutesRefused_16 : decode cX10_minutesRefused 16 = .ok (.getfield 99, 3) := by decide +kernel
theorem dX10_minutesRefused_19 : decode cX10_minutesRefused 19 = .ok (.ifCond .ne 8, 3) := by decide +kernel
theorem dX10_minutesRefused_22 : decode cX10_minutesRefused 22 = .ok (.ldc 232, 2) := by decide +kernel
theorem dX10_minutesRefused_24 : decode cX10_minutesRefused 24 = .ok (.goto 20, 3) := by decide +kernel
theorem dX10_minutesRefused_27 : decode cX10_minutesRefused 27 = .ok (.aload_n 0, 1) := by decide +kernel
theorem dX10_minutesRefused_28 : decode cX10_minutesRefused 28 = .ok (.getfield 29, 3) := by decide +kernel
theorem dX10_minutesRefused_31 : decode cX10_minutesRefused 31 = .ok (.iconst 2, 1) := by decide +kernel
theorem dX10_minutesRefused_32 : decode cX10_minutesRefused 32 = .ok (.iaload, 1) := by decide +kernel
theorem dX10_minutesRefused_33 : decode cX10_minutesRefused 33 = .ok (.ldc 245, 2) := by decide +kernel
theorem dX10_minutesRefused_35 : decode cX10_minutesRefused 35 = .ok (.if_icmp .le 8, 3) := by decide +kernel
theorem dX10_minutesRefused_38 : decode cX10_minutesRefused 38 = .ok (.ldc 115, 2) := by decide +kernel
theorem dX10_minutesRefused_40 : decode cX10_minutesRefused 40 = .ok (.goto 4, 3) := by decide +kernel
theorem dX10_minutesRefused_43 : decode cX10_minutesRefused 43 = .ok (.iconst 0, 1) := by decide +kernel
theorem dX10_minutesRefused_44 : decode cX10_minutesRefused 44 = .ok (.ireturn, 1) := by decide +kernel
theorem dX10_minute_0 : decode cX10_minute 0 = .ok (.aload_n 0, 1) := by decide +kernel
theorem dX10_minute_1 : decode cX10_minute 1 = .ok (.iload_n 1, 1) := by decide +kernel
theorem dX10_minute_2 : decode cX10_minute 2 = .ok (.invokevirtual 246, 3) := by decide +kernel
theorem dX10_minute_5 : decode cX10_minute 5 = .ok (.istore_n 2, 1) := by decide +kernel
theorem dX10_minute_6 : decode cX10_minute 6 = .ok (.iload_n 2, 1) := by decide +kernel
theorem dX10_minute_7 : decode cX10_minute 7 = .ok (.ifCond .eq 5, 3) := by decide +kernel
theorem dX10_minute_10 : decode cX10_minute 10 = .ok (.iload_n 2, 1) := by decide +kernel
theorem dX10_minute_11 : decode cX10_minute 11 = .ok (.ireturn, 1) := by decide +kernel
theorem dX10_minute_12 : decode cX10_minute 12 = .ok (.aload_n 0, 1) := by decide +kernel
theorem dX10_minute_13 : decode cX10_minute 13 = .ok (.invokevirtual 233, 3) := by decide +kernel
theorem dX10_minute_16 : decode cX10_minute 16 = .ok (.aload_n 0, 1) := by decide +kernel
theorem dX10_minute_17 : decode cX10_minute 17 = .ok (.getfield 29, 3) := by decide +kernel
theorem dX10_minute_20 : decode cX10_minute 20 = .ok (.iconst 2, 1) := by decide +kernel
theorem dX10_minute_21 : decode cX10_minute 21 = .ok (.dup2, 1) := by decide +kernel
theorem dX10_minute_22 : decode cX10_minute 22 = .ok (.iaload, 1) := by decide +kernel
theorem dX10_minute_23 : decode cX10_minute 23 = .ok (.iload_n 1, 1) := by decide +kernel
theorem dX10_minute_24 : decode cX10_minute 24 = .ok (.iadd, 1) := by decide +kernel
theorem dX10_minute_25 : decode cX10_minute 25 = .ok (.iastore, 1) := by decide +kernel
theorem dX10_minute_26 : decode cX10_minute 26 = .ok (.aload_n 0, 1) := by decide +kernel
theorem dX10_minute_27 : decode cX10_minute 27 = .ok (.getfield 29, 3) := by decide +kernel
theorem dX10_minute_30 : decode cX10_minute 30 = .ok (.iconst 2, 1) := by decide +kernel
theorem dX10_minute_31 : decode cX10_minute 31 = .ok (.iaload, 1) := by decide +kernel
theorem dX10_minute_32 : decode cX10_minute 32 = .ok (.ireturn, 1) := by decide +kernel
theorem dX10_fog_0 : decode cX10_fog 0 = .ok (.iload_n 1, 1) := by decide +kernel
theorem dX10_fog_1 : decode cX10_fog 1 = .ok (.i2l, 1) := by decide +kernel
theorem dX10_fog_2 : decode cX10_fog 2 = .ok (.lconst 0, 1) := by decide +kernel
theorem dX10_fog_3 : decode cX10_fog 3 = .ok (.ldc2_w 249, 3) := by decide +kernel
theorem dX10_fog_6 : decode cX10_fog 6 = .ok (.invokestatic 105, 3) := by decide +kernel
theorem dX10_fog_9 : decode cX10_fog 9 = .ok (.ifCond .ne 6, 3) := by decide +kernel
theorem dX10_fog_12 : decode cX10_fog 12 = .ok (.ldc 111, 2) := by decide +kernel
theorem dX10_fog_14 : decode cX10_fog 14 = .ok (.ireturn, 1) := by decide +kernel
theorem dX10_fog_15 : decode cX10_fog 15 = .ok (.aload_n 0, 1) := by decide +kernel
theorem dX10_fog_16 : decode cX10_fog 16 = .ok (.getfield 99, 3) := by decide +kernel
theorem dX10_fog_19 : decode cX10_fog 19 = .ok (.ifCond .ne 6, 3) := by decide +kernel
theorem dX10_fog_22 : decode cX10_fog 22 = .ok (.ldc 232, 2) := by decide +kernel
theorem dX10_fog_24 : decode cX10_fog 24 = .ok (.ireturn, 1) := by decide +kernel
theorem dX10_fog_25 : decode cX10_fog 25 = .ok (.aload_n 0, 1) := by decide +kernel
theorem dX10_fog_26 : decode cX10_fog 26 = .ok (.invokevirtual 233, 3) := by decide +kernel
theorem dX10_fog_29 : decode cX10_fog 29 = .ok (.aload_n 0, 1) := by decide +kernel
theorem dX10_fog_30 : decode cX10_fog 30 = .ok (.getfield 29, 3) := by decide +kernel
theorem dX10_fog_33 : decode cX10_fog 33 = .ok (.iconst 0, 1) := by decide +kernel
theorem dX10_fog_34 : decode cX10_fog 34 = .ok (.iaload, 1) := by decide +kernel
theorem dX10_fog_35 : decode cX10_fog 35 = .ok (.istore_n 2, 1) := by decide +kernel
theorem dX10_fog_36 : decode cX10_fog 36 = .ok (.aload_n 0, 1) := by decide +kernel
theorem dX10_fog_37 : decode cX10_fog 37 = .ok (.getfield 29, 3) := by decide +kernel
theorem dX10_fog_40 : decode cX10_fog 40 = .ok (.iconst 0, 1) := by decide +kernel
theorem dX10_fog_41 : decode cX10_fog 41 = .ok (.iload_n 1, 1) := by decide +kernel
theorem dX10_fog_42 : decode cX10_fog 42 = .ok (.iastore, 1) := by decide +kernel
theorem dX10_fog_43 : decode cX10_fog 43 = .ok (.iload_n 2, 1) := by decide +kernel
theorem dX10_fog_44 : decode cX10_fog 44 = .ok (.ireturn, 1) := by decide +kernel
theorem dX10_wind_0 : decode cX10_wind 0 = .ok (.iload_n 1, 1) := by decide +kernel
theorem dX10_wind_1 : decode cX10_wind 1 = .ok (.i2l, 1) := by decide +kernel
theorem dX10_wind_2 : decode cX10_wind 2 = .ok (.ldc2_w 251, 3) := by decide +kernel
theorem dX10_wind_5 : decode cX10_wind 5 = .ok (.ldc2_w 253, 3) := by decide +kernel
theorem dX10_wind_8 : decode cX10_wind 8 = .ok (.invokestatic 105, 3) := by decide +kernel
theorem dX10_wind_11 : decode cX10_wind 11 = .ok (.ifCond .ne 6, 3) := by decide +kernel
theorem dX10_wind_14 : decode cX10_wind 14 = .ok (.ldc 111, 2) := by decide +kernel
theorem dX10_wind_16 : decode cX10_wind 16 = .ok (.ireturn, 1) := by decide +kernel
theorem dX10_wind_17 : decode cX10_wind 17 = .ok (.aload_n 0, 1) := by decide +kernel
theorem dX10_wind_18 : decode cX10_wind 18 = .ok (.getfield 99, 3) := by decide +kernel
theorem dX10_wind_21 : decode cX10_wind 21 = .ok (.ifCond .ne 6, 3) := by decide +kernel
theorem dX10_wind_24 : decode cX10_wind 24 = .ok (.ldc 232, 2) := by decide +kernel
theorem dX10_wind_26 : decode cX10_wind 26 = .ok (.ireturn, 1) := by decide +kernel
theorem dX10_wind_27 : decode cX10_wind 27 = .ok (.aload_n 0, 1) := by decide +kernel
theorem dX10_wind_28 : decode cX10_wind 28 = .ok (.invokevirtual 233, 3) := by decide +kernel
theorem dX10_wind_31 : decode cX10_wind 31 = .ok (.aload_n 0, 1) := by decide +kernel
theorem dX10_wind_32 : decode cX10_wind 32 = .ok (.getfield 29, 3) := by decide +kernel
theorem dX10_wind_35 : decode cX10_wind 35 = .ok (.iconst 1, 1) := by decide +kernel
theorem dX10_wind_36 : decode cX10_wind 36 = .ok (.iaload, 1) := by decide +kernel
theorem dX10_wind_37 : decode cX10_wind 37 = .ok (.istore_n 2, 1) := by decide +kernel
theorem dX10_wind_38 : decode cX10_wind 38 = .ok (.aload_n 0, 1) := by decide +kernel
theorem dX10_wind_39 : decode cX10_wind 39 = .ok (.getfield 29, 3) := by decide +kernel
theorem dX10_wind_42 : decode cX10_wind 42 = .ok (.iconst 1, 1) := by decide +kernel
theorem dX10_wind_43 : decode cX10_wind 43 = .ok (.iload_n 1, 1) := by decide +kernel
theorem dX10_wind_44 : decode cX10_wind 44 = .ok (.iastore, 1) := by decide +kernel
theorem dX10_wind_45 : decode cX10_wind 45 = .ok (.iload_n 2, 1) := by decide +kernel
theorem dX10_wind_46 : decode cX10_wind 46 = .ok (.iconst 5, 1) := by decide +kernel
theorem dX10_wind_47 : decode cX10_wind 47 = .ok (.iadd, 1) := by decide +kernel
theorem dX10_wind_48 : decode cX10_wind 48 = .ok (.ireturn, 1) := by decide +kernel
theorem dX10_draw_0 : decode cX10_draw 0 = .ok (.aload_n 0, 1) := by decide +kernel
theorem dX10_draw_1 : decode cX10_draw 1 = .ok (.aload_n 0, 1) := by decide +kernel
theorem dX10_draw_2 : decode cX10_draw 2 = .ok (.getfield 255, 3) := by decide +kernel
theorem dX10_draw_5 : decode cX10_draw 5 = .ok (.i2l, 1) := by decide +kernel
theorem dX10_draw_6 : decode cX10_draw 6 = .ok (.ldc2_w 258, 3) := by decide +kernel
theorem dX10_draw_9 : decode cX10_draw 9 = .ok (.lmul, 1) := by decide +kernel
theorem dX10_draw_10 : decode cX10_draw 10 = .ok (.ldc2_w 260, 3) := by decide +kernel
theorem dX10_draw_13 : decode cX10_draw 13 = .ok (.ladd, 1) := by decide +kernel
theorem dX10_draw_14 : decode cX10_draw 14 = .ok (.ldc2_w 262, 3) := by decide +kernel
theorem dX10_draw_17 : decode cX10_draw 17 = .ok (.lrem, 1) := by decide +kernel
theorem dX10_draw_18 : decode cX10_draw 18 = .ok (.l2i, 1) := by decide +kernel
theorem dX10_draw_19 : decode cX10_draw 19 = .ok (.putfield 255, 3) := by decide +kernel
theorem dX10_draw_22 : decode cX10_draw 22 = .ok (.aload_n 0, 1) := by decide +kernel
theorem dX10_draw_23 : decode cX10_draw 23 = .ok (.getfield 255, 3) := by decide +kernel
theorem dX10_draw_26 : decode cX10_draw 26 = .ok (.ldc_w 264, 3) := by decide +kernel
theorem dX10_draw_29 : decode cX10_draw 29 = .ok (.idiv, 1) := by decide +kernel
theorem dX10_draw_30 : decode cX10_draw 30 = .ok (.iload_n 1, 1) := by decide +kernel
theorem dX10_draw_31 : decode cX10_draw 31 = .ok (.irem, 1) := by decide +kernel
theorem dX10_draw_32 : decode cX10_draw 32 = .ok (.ireturn, 1) := by decide +kernel
theorem dX10_drift_0 : decode cX10_drift 0 = .ok (.aload_n 0, 1) := by decide +kernel
theorem dX10_drift_1 : decode cX10_drift 1 = .ok (.iload_n 1, 1) := by decide +kernel
theorem dX10_drift_2 : decode cX10_drift 2 = .ok (.invokevirtual 246, 3) := by decide +kernel
theorem dX10_drift_5 : decode cX10_drift 5 = .ok (.istore_n 2, 1) := by decide +kernel
theorem dX10_drift_6 : decode cX10_drift 6 = .ok (.iload_n 2, 1) := by decide +kernel
theorem dX10_drift_7 : decode cX10_drift 7 = .ok (.ifCond .eq 5, 3) := by decide +kernel
theorem dX10_drift_10 : decode cX10_drift 10 = .ok (.iload_n 2, 1) := by decide +kernel
theorem dX10_drift_11 : decode cX10_drift 11 = .ok (.ireturn, 1) := by decide +kernel
theorem dX10_drift_12 : decode cX10_drift 12 = .ok (.aload_n 0, 1) := by decide +kernel
theorem dX10_drift_13 : decode cX10_drift 13 = .ok (.invokevirtual 233, 3) := by decide +kernel
theorem dX10_drift_16 : decode cX10_drift 16 = .ok (.iconst 0, 1) := by decide +kernel
theorem dX10_drift_17 : decode cX10_drift 17 = .ok (.istore_n 3, 1) := by decide +kernel
theorem dX10_drift_18 : decode cX10_drift 18 = .ok (.iload_n 3, 1) := by decide +kernel
theorem dX10_drift_19 : decode cX10_drift 19 = .ok (.iload_n 1, 1) := by decide +kernel
theorem dX10_drift_20 : decode cX10_drift 20 = .ok (.if_icmp .ge 66, 3) := by decide +kernel
theorem dX10_drift_23 : decode cX10_drift 23 = .ok (.aload_n 0, 1) := by decide +kernel
theorem dX10_drift_24 : decode cX10_drift 24 = .ok (.iconst 3, 1) := by decide +kernel
theorem dX10_drift_25 : decode cX10_drift 25 = .ok (.invokevirtual 265, 3) := by decide +kernel
theorem dX10_drift_28 : decode cX10_drift 28 = .ok (.istore 4, 2) := by decide +kernel
theorem dX10_drift_30 : decode cX10_drift 30 = .ok (.iload 4, 2) := by decide +kernel
theorem dX10_drift_32 : decode cX10_drift 32 = .ok (.ifCond .ne 18, 3) := by decide +kernel
theorem dX10_drift_35 : decode cX10_drift 35 = .ok (.aload_n 0, 1) := by decide +kernel
theorem dX10_drift_36 : decode cX10_drift 36 = .ok (.getfield 29, 3) := by decide +kernel
theorem dX10_drift_39 : decode cX10_drift 39 = .ok (.iconst 0, 1) := by decide +kernel
theorem dX10_drift_40 : decode cX10_drift 40 = .ok (.aload_n 0, 1) := by decide +kernel
theorem dX10_drift_41 : decode cX10_drift 41 = .ok (.bipush 21, 2) := by decide +kernel
theorem dX10_drift_43 : decode cX10_drift 43 = .ok (.invokevirtual 265, 3) := by decide +kernel
theorem dX10_drift_46 : decode cX10_drift 46 = .ok (.iastore, 1) := by decide +kernel
theorem dX10_drift_47 : decode cX10_drift 47 = .ok (.goto 23, 3) := by decide +kernel
theorem dX10_drift_50 : decode cX10_drift 50 = .ok (.iload 4, 2) := by decide +kernel
theorem dX10_drift_52 : decode cX10_drift 52 = .ok (.iconst 1, 1) := by decide +kernel
theorem dX10_drift_53 : decode cX10_drift 53 = .ok (.if_icmp .ne 17, 3) := by decide +kernel
theorem dX10_drift_56 : decode cX10_drift 56 = .ok (.aload_n 0, 1) := by decide +kernel
theorem dX10_drift_57 : decode cX10_drift 57 = .ok (.getfield 29, 3) := by decide +kernel
theorem dX10_drift_60 : decode cX10_drift 60 = .ok (.iconst 1, 1) := by decide +kernel
theorem dX10_drift_61 : decode cX10_drift 61 = .ok (.aload_n 0, 1) := by decide +kernel
theorem dX10_drift_62 : decode cX10_drift 62 = .ok (.bipush 11, 2) := by decide +kernel
theorem dX10_drift_64 : decode cX10_drift 64 = .ok (.invokevirtual 265, 3) := by decide +kernel
theorem dX10_drift_67 : decode cX10_drift 67 = .ok (.iconst 5, 1) := by decide +kernel
theorem dX10_drift_68 : decode cX10_drift 68 = .ok (.isub, 1) := by decide +kernel
theorem dX10_drift_69 : decode cX10_drift 69 = .ok (.iastore, 1) := by decide +kernel
theorem dX10_drift_70 : decode cX10_drift 70 = .ok (.aload_n 0, 1) := by decide +kernel
theorem dX10_drift_71 : decode cX10_drift 71 = .ok (.getfield 29, 3) := by decide +kernel
theorem dX10_drift_74 : decode cX10_drift 74 = .ok (.iconst 2, 1) := by decide +kernel
theorem dX10_drift_75 : decode cX10_drift 75 = .ok (.dup2, 1) := by decide +kernel
theorem dX10_drift_76 : decode cX10_drift 76 = .ok (.iaload, 1) := by decide +kernel
theorem dX10_drift_77 : decode cX10_drift 77 = .ok (.iconst 1, 1) := by decide +kernel
theorem dX10_drift_78 : decode cX10_drift 78 = .ok (.iadd, 1) := by decide +kernel
theorem dX10_drift_79 : decode cX10_drift 79 = .ok (.iastore, 1) := by decide +kernel
theorem dX10_drift_80 : decode cX10_drift 80 = .ok (.iinc 3 1, 3) := by decide +kernel
theorem dX10_drift_83 : decode cX10_drift 83 = .ok (.goto (-65), 3) := by decide +kernel
theorem dX10_drift_86 : decode cX10_drift 86 = .ok (.aload_n 0, 1) := by decide +kernel
theorem dX10_drift_87 : decode cX10_drift 87 = .ok (.getfield 29, 3) := by decide +kernel
theorem dX10_drift_90 : decode cX10_drift 90 = .ok (.iconst 2, 1) := by decide +kernel
theorem dX10_drift_91 : decode cX10_drift 91 = .ok (.iaload, 1) := by decide +kernel
theorem dX10_drift_92 : decode cX10_drift 92 = .ok (.ireturn, 1) := by decide +kernel
theorem dX10_undo_0 : decode cX10_undo 0 = .ok (.aload_n 0, 1) := by decide +kernel
theorem dX10_undo_1 : decode cX10_undo 1 = .ok (.getfield 191, 3) := by decide +kernel
theorem dX10_undo_4 : decode cX10_undo 4 = .ok (.ifCond .ne 6, 3) := by decide +kernel
theorem dX10_undo_7 : decode cX10_undo 7 = .ok (.ldc 232, 2) := by decide +kernel
theorem dX10_undo_9 : decode cX10_undo 9 = .ok (.ireturn, 1) := by decide +kernel
theorem dX10_undo_10 : decode cX10_undo 10 = .ok (.aload_n 0, 1) := by decide +kernel
theorem dX10_undo_11 : decode cX10_undo 11 = .ok (.dup, 1) := by decide +kernel
theorem dX10_undo_12 : decode cX10_undo 12 = .ok (.getfield 191, 3) := by decide +kernel
theorem dX10_undo_15 : decode cX10_undo 15 = .ok (.iconst 1, 1) := by decide +kernel
theorem dX10_undo_16 : decode cX10_undo 16 = .ok (.isub, 1) := by decide +kernel
theorem dX10_undo_17 : decode cX10_undo 17 = .ok (.putfield 191, 3) := by decide +kernel
theorem dX10_undo_20 : decode cX10_undo 20 = .ok (.iconst 0, 1) := by decide +kernel
theorem dX10_undo_21 : decode cX10_undo 21 = .ok (.istore_n 1, 1) := by decide +kernel
theorem dX10_undo_22 : decode cX10_undo 22 = .ok (.iload_n 1, 1) := by decide +kernel
theorem dX10_undo_23 : decode cX10_undo 23 = .ok (.bipush 43, 2) := by decide +kernel
theorem dX10_undo_25 : decode cX10_undo 25 = .ok (.if_icmp .ge 29, 3) := by decide +kernel
theorem dX10_undo_28 : decode cX10_undo 28 = .ok (.aload_n 0, 1) := by decide +kernel
theorem dX10_undo_29 : decode cX10_undo 29 = .ok (.getfield 29, 3) := by decide +kernel
theorem dX10_undo_32 : decode cX10_undo 32 = .ok (.iload_n 1, 1) := by decide +kernel
theorem dX10_undo_33 : decode cX10_undo 33 = .ok (.aload_n 0, 1) := by decide +kernel
theorem dX10_undo_34 : decode cX10_undo 34 = .ok (.getfield 62, 3) := by decide +kernel
theorem dX10_undo_37 : decode cX10_undo 37 = .ok (.bipush 43, 2) := by decide +kernel
theorem dX10_undo_39 : decode cX10_undo 39 = .ok (.aload_n 0, 1) := by decide +kernel
theorem dX10_undo_40 : decode cX10_undo 40 = .ok (.getfield 191, 3) := by decide +kernel
theorem dX10_undo_43 : decode cX10_undo 43 = .ok (.imul, 1) := by decide +kernel
theorem dX10_undo_44 : decode cX10_undo 44 = .ok (.iload_n 1, 1) := by decide +kernel
theorem dX10_undo_45 : decode cX10_undo 45 = .ok (.iadd, 1) := by decide +kernel
theorem dX10_undo_46 : decode cX10_undo 46 = .ok (.iaload, 1) := by decide +kernel
theorem dX10_undo_47 : decode cX10_undo 47 = .ok (.iastore, 1) := by decide +kernel
theorem dX10_undo_48 : decode cX10_undo 48 = .ok (.iinc 1 1, 3) := by decide +kernel
theorem dX10_undo_51 : decode cX10_undo 51 = .ok (.goto (-29), 3) := by decide +kernel
theorem dX10_undo_54 : decode cX10_undo 54 = .ok (.aload_n 0, 1) := by decide +kernel
theorem dX10_undo_55 : decode cX10_undo 55 = .ok (.getfield 191, 3) := by decide +kernel
theorem dX10_undo_58 : decode cX10_undo 58 = .ok (.ireturn, 1) := by decide +kernel
theorem dX10_figure_0 : decode cX10_figure 0 = .ok (.iload_n 0, 1) := by decide +kernel
theorem dX10_figure_1 : decode cX10_figure 1 = .ok (.iconst 3, 1) := by decide +kernel
theorem dX10_figure_2 : decode cX10_figure 2 = .ok (.iload_n 1, 1) := by decide +kernel
theorem dX10_figure_3 : decode cX10_figure 3 = .ok (.iconst 1, 1) := by decide +kernel
theorem dX10_figure_4 : decode cX10_figure 4 = .ok (.isub, 1) := by decide +kernel
theorem dX10_figure_5 : decode cX10_figure 5 = .ok (.iload_n 2, 1) := by decide +kernel
theorem dX10_figure_6 : decode cX10_figure 6 = .ok (.isub, 1) := by decide +kernel
theorem dX10_figure_7 : decode cX10_figure 7 = .ok (.imul, 1) := by decide +kernel
theorem dX10_figure_8 : decode cX10_figure 8 = .ok (.ishr, 1) := by decide +kernel
theorem dX10_figure_9 : decode cX10_figure 9 = .ok (.bipush 7, 2) := by decide +kernel
theorem dX10_figure_11 : decode cX10_figure 11 = .ok (.iand, 1) := by decide +kernel
theorem dX10_figure_12 : decode cX10_figure 12 = .ok (.ireturn, 1) := by decide +kernel
theorem dX10_isOrder_0 : decode cX10_isOrder 0 = .ok (.iload_n 3, 1) := by decide +kernel
theorem dX10_isOrder_1 : decode cX10_isOrder 1 = .ok (.istore 4, 2) := by decide +kernel
theorem dX10_isOrder_3 : decode cX10_isOrder 3 = .ok (.iconst 1, 1) := by decide +kernel
theorem dX10_isOrder_4 : decode cX10_isOrder 4 = .ok (.istore 5, 2) := by decide +kernel
theorem dX10_isOrder_6 : decode cX10_isOrder 6 = .ok (.iconst 0, 1) := by decide +kernel
theorem dX10_isOrder_7 : decode cX10_isOrder 7 = .ok (.istore 6, 2) := by decide +kernel
theorem dX10_isOrder_9 : decode cX10_isOrder 9 = .ok (.iload 6, 2) := by decide +kernel
theorem dX10_isOrder_11 : decode cX10_isOrder 11 = .ok (.iload_n 2, 1) := by decide +kernel
theorem dX10_isOrder_12 : decode cX10_isOrder 12 = .ok (.if_icmp .ge 84, 3) := by decide +kernel
theorem dX10_isOrder_15 : decode cX10_isOrder 15 = .ok (.iload 5, 2) := by decide +kernel
theorem dX10_isOrder_17 : decode cX10_isOrder 17 = .ok (.ifCond .eq 79, 3) := by decide +kernel
theorem dX10_isOrder_20 : decode cX10_isOrder 20 = .ok (.iload_n 1, 1) := by decide +kernel
theorem dX10_isOrder_21 : decode cX10_isOrder 21 = .ok (.iload_n 2, 1) := by decide +kernel
theorem dX10_isOrder_22 : decode cX10_isOrder 22 = .ok (.iload 6, 2) := by decide +kernel
theorem dX10_isOrder_24 : decode cX10_isOrder 24 = .ok (.invokestatic 268, 3) := by decide +kernel
theorem dX10_isOrder_27 : decode cX10_isOrder 27 = .ok (.istore 7, 2) := by decide +kernel
theorem dX10_isOrder_29 : decode cX10_isOrder 29 = .ok (.iload 4, 2) := by decide +kernel
theorem dX10_isOrder_31 : decode cX10_isOrder 31 = .ok (.iload 7, 2) := by decide +kernel
theorem dX10_isOrder_33 : decode cX10_isOrder 33 = .ok (.invokestatic 194, 3) := by decide +kernel
theorem dX10_isOrder_36 : decode cX10_isOrder 36 = .ok (.ifCond .eq 40, 3) := by decide +kernel
theorem dX10_isOrder_39 : decode cX10_isOrder 39 = .ok (.iload 6, 2) := by decide +kernel
theorem dX10_isOrder_41 : decode cX10_isOrder 41 = .ok (.ifCond .eq 31, 3) := by decide +kernel
theorem dX10_isOrder_44 : decode cX10_isOrder 44 = .ok (.aload_n 0, 1) := by decide +kernel
theorem dX10_isOrder_45 : decode cX10_isOrder 45 = .ok (.getfield 7, 3) := by decide +kernel
theorem dX10_isOrder_48 : decode cX10_isOrder 48 = .ok (.iload 7, 2) := by decide +kernel
theorem dX10_isOrder_50 : decode cX10_isOrder 50 = .ok (.iaload, 1) := by decide +kernel
theorem dX10_isOrder_51 : decode cX10_isOrder 51 = .ok (.aload_n 0, 1) := by decide +kernel
theorem dX10_isOrder_52 : decode cX10_isOrder 52 = .ok (.getfield 7, 3) := by decide +kernel
theorem dX10_isOrder_55 : decode cX10_isOrder 55 = .ok (.iload_n 1, 1) := by decide +kernel
theorem dX10_isOrder_56 : decode cX10_isOrder 56 = .ok (.iload_n 2, 1) := by decide +kernel
theorem dX10_isOrder_57 : decode cX10_isOrder 57 = .ok (.iload 6, 2) := by decide +kernel
theorem dX10_isOrder_59 : decode cX10_isOrder 59 = .ok (.iconst 1, 1) := by decide +kernel
theorem dX10_isOrder_60 : decode cX10_isOrder 60 = .ok (.isub, 1) := by decide +kernel
theorem dX10_isOrder_61 : decode cX10_isOrder 61 = .ok (.invokestatic 268, 3) := by decide +kernel
theorem dX10_isOrder_64 : decode cX10_isOrder 64 = .ok (.iaload, 1) := by decide +kernel
theorem dX10_isOrder_65 : decode cX10_isOrder 65 = .ok (.invokestatic 217, 3) := by decide +kernel
theorem dX10_isOrder_68 : decode cX10_isOrder 68 = .ok (.iconst 1, 1) := by decide +kernel
theorem dX10_isOrder_69 : decode cX10_isOrder 69 = .ok (.if_icmp .eq 7, 3) := by decide +kernel
theorem dX10_isOrder_72 : decode cX10_isOrder 72 = .ok (.iconst 1, 1) := by decide +kernel
theorem dX10_isOrder_73 : decode cX10_isOrder 73 = .ok (.goto 4, 3) := by decide +kernel
theorem dX10_isOrder_76 : decode cX10_isOrder 76 = .ok (.iconst 0, 1) := by decide +kernel
theorem dX10_isOrder_77 : decode cX10_isOrder 77 = .ok (.istore 5, 2) := by decide +kernel
theorem dX10_isOrder_79 : decode cX10_isOrder 79 = .ok (.iload 4, 2) := by decide +kernel
theorem dX10_isOrder_81 : decode cX10_isOrder 81 = .ok (.iconst 1, 1) := by decide +kernel
theorem dX10_isOrder_82 : decode cX10_isOrder 82 = .ok (.iload 7, 2) := by decide +kernel
theorem dX10_isOrder_84 : decode cX10_isOrder 84 = .ok (.ishl, 1) := by decide +kernel
theorem dX10_isOrder_85 : decode cX10_isOrder 85 = .ok (.iconst (-1), 1) := by decide +kernel
theorem dX10_isOrder_86 : decode cX10_isOrder 86 = .ok (.ixor, 1) := by decide +kernel
theorem dX10_isOrder_87 : decode cX10_isOrder 87 = .ok (.iand, 1) := by decide +kernel
theorem dX10_isOrder_88 : decode cX10_isOrder 88 = .ok (.istore 4, 2) := by decide +kernel
theorem dX10_isOrder_90 : decode cX10_isOrder 90 = .ok (.iinc 6 1, 3) := by decide +kernel
theorem dX10_isOrder_93 : decode cX10_isOrder 93 = .ok (.goto (-84), 3) := by decide +kernel
theorem dX10_isOrder_96 : decode cX10_isOrder 96 = .ok (.iload 5, 2) := by decide +kernel
theorem dX10_isOrder_98 : decode cX10_isOrder 98 = .ok (.ifCond .ne 5, 3) := by decide +kernel
theorem dX10_isOrder_101 : decode cX10_isOrder 101 = .ok (.iconst 0, 1) := by decide +kernel
theorem dX10_isOrder_102 : decode cX10_isOrder 102 = .ok (.ireturn, 1) := by decide +kernel
theorem dX10_isOrder_103 : decode cX10_isOrder 103 = .ok (.iconst 0, 1) := by decide +kernel
theorem dX10_isOrder_104 : decode cX10_isOrder 104 = .ok (.istore 6, 2) := by decide +kernel
theorem dX10_isOrder_106 : decode cX10_isOrder 106 = .ok (.iload 6, 2) := by decide +kernel
theorem dX10_isOrder_108 : decode cX10_isOrder 108 = .ok (.bipush 43, 2) := by decide +kernel
theorem dX10_isOrder_110 : decode cX10_isOrder 110 = .ok (.if_icmp .ge 23, 3) := by decide +kernel
theorem dX10_isOrder_113 : decode cX10_isOrder 113 = .ok (.aload_n 0, 1) := by decide +kernel
theorem dX10_isOrder_114 : decode cX10_isOrder 114 = .ok (.getfield 65, 3) := by decide +kernel
theorem dX10_isOrder_117 : decode cX10_isOrder 117 = .ok (.iload 6, 2) := by decide +kernel
theorem dX10_isOrder_119 : decode cX10_isOrder 119 = .ok (.aload_n 0, 1) := by decide +kernel
theorem dX10_isOrder_120 : decode cX10_isOrder 120 = .ok (.getfield 29, 3) := by decide +kernel
theorem dX10_isOrder_123 : decode cX10_isOrder 123 = .ok (.iload 6, 2) := by decide +kernel
theorem dX10_isOrder_125 : decode cX10_isOrder 125 = .ok (.iaload, 1) := by decide +kernel
theorem dX10_isOrder_126 : decode cX10_isOrder 126 = .ok (.iastore, 1) := by decide +kernel
theorem dX10_isOrder_127 : decode cX10_isOrder 127 = .ok (.iinc 6 1, 3) := by decide +kernel
theorem dX10_isOrder_130 : decode cX10_isOrder 130 = .ok (.goto (-24), 3) := by decide +kernel
theorem dX10_isOrder_133 : decode cX10_isOrder 133 = .ok (.iconst 0, 1) := by decide +kernel
theorem dX10_isOrder_134 : decode cX10_isOrder 134 = .ok (.istore 6, 2) := by decide +kernel
theorem dX10_isOrder_136 : decode cX10_isOrder 136 = .ok (.iload 6, 2) := by decide +kernel
theorem dX10_isOrder_138 : decode cX10_isOrder 138 = .ok (.iload_n 2, 1) := by decide +kernel
theorem dX10_isOrder_139 : decode cX10_isOrder 139 = .ok (.if_icmp .ge 59, 3) := by decide +kernel
theorem dX10_isOrder_142 : decode cX10_isOrder 142 = .ok (.iload 5, 2) := by decide +kernel
theorem dX10_isOrder_144 : decode cX10_isOrder 144 = .ok (.ifCond .eq 54, 3) := by decide +kernel
theorem dX10_isOrder_147 : decode cX10_isOrder 147 = .ok (.iload_n 1, 1) := by decide +kernel
theorem dX10_isOrder_148 : decode cX10_isOrder 148 = .ok (.iload_n 2, 1) := by decide +kernel
theorem dX10_isOrder_149 : decode cX10_isOrder 149 = .ok (.iload 6, 2) := by decide +kernel
theorem dX10_isOrder_151 : decode cX10_isOrder 151 = .ok (.invokestatic 268, 3) := by decide +kernel
theorem dX10_isOrder_154 : decode cX10_isOrder 154 = .ok (.istore 7, 2) := by decide +kernel
theorem dX10_isOrder_156 : decode cX10_isOrder 156 = .ok (.aload_n 0, 1) := by decide +kernel
theorem dX10_isOrder_157 : decode cX10_isOrder 157 = .ok (.iload 7, 2) := by decide +kernel
theorem dX10_isOrder_159 : decode cX10_isOrder 159 = .ok (.invokevirtual 229, 3) := by decide +kernel
theorem dX10_isOrder_162 : decode cX10_isOrder 162 = .ok (.invokestatic 272, 3) := by decide +kernel
theorem dX10_isOrder_165 : decode cX10_isOrder 165 = .ok (.iconst 2, 1) := by decide +kernel
theorem dX10_isOrder_166 : decode cX10_isOrder 166 = .ok (.if_icmp .lt 7, 3) := by decide +kernel
theorem dX10_isOrder_169 : decode cX10_isOrder 169 = .ok (.iconst 1, 1) := by decide +kernel
theorem dX10_isOrder_170 : decode cX10_isOrder 170 = .ok (.goto 4, 3) := by decide +kernel
theorem dX10_isOrder_173 : decode cX10_isOrder 173 = .ok (.iconst 0, 1) := by decide +kernel
theorem dX10_isOrder_174 : decode cX10_isOrder 174 = .ok (.istore 5, 2) := by decide +kernel
theorem dX10_isOrder_176 : decode cX10_isOrder 176 = .ok (.aload_n 0, 1) := by decide +kernel
theorem dX10_isOrder_177 : decode cX10_isOrder 177 = .ok (.iload 7, 2) := by decide +kernel
theorem dX10_isOrder_179 : decode cX10_isOrder 179 = .ok (.invokevirtual 236, 3) := by decide +kernel
theorem dX10_isOrder_182 : decode cX10_isOrder 182 = .ok (.aload_n 0, 1) := by decide +kernel
theorem dX10_isOrder_183 : decode cX10_isOrder 183 = .ok (.getfield 29, 3) := by decide +kernel
theorem dX10_isOrder_186 : decode cX10_isOrder 186 = .ok (.iconst 2, 1) := by decide +kernel
theorem dX10_isOrder_187 : decode cX10_isOrder 187 = .ok (.dup2, 1) := by decide +kernel
theorem dX10_isOrder_188 : decode cX10_isOrder 188 = .ok (.iaload, 1) := by decide +kernel
theorem dX10_isOrder_189 : decode cX10_isOrder 189 = .ok (.iconst 1, 1) := by decide +kernel
theorem dX10_isOrder_190 : decode cX10_isOrder 190 = .ok (.iadd, 1) := by decide +kernel
theorem dX10_isOrder_191 : decode cX10_isOrder 191 = .ok (.iastore, 1) := by decide +kernel
theorem dX10_isOrder_192 : decode cX10_isOrder 192 = .ok (.iinc 6 1, 3) := by decide +kernel
theorem dX10_isOrder_195 : decode cX10_isOrder 195 = .ok (.goto (-59), 3) := by decide +kernel
theorem dX10_isOrder_198 : decode cX10_isOrder 198 = .ok (.iconst 0, 1) := by decide +kernel
theorem dX10_isOrder_199 : decode cX10_isOrder 199 = .ok (.istore 6, 2) := by decide +kernel
theorem dX10_isOrder_201 : decode cX10_isOrder 201 = .ok (.iload 6, 2) := by decide +kernel
theorem dX10_isOrder_203 : decode cX10_isOrder 203 = .ok (.bipush 43, 2) := by decide +kernel
theorem dX10_isOrder_205 : decode cX10_isOrder 205 = .ok (.if_icmp .ge 23, 3) := by decide +kernel
theorem dX10_isOrder_208 : decode cX10_isOrder 208 = .ok (.aload_n 0, 1) := by decide +kernel
theorem dX10_isOrder_209 : decode cX10_isOrder 209 = .ok (.getfield 29, 3) := by decide +kernel
theorem dX10_isOrder_212 : decode cX10_isOrder 212 = .ok (.iload 6, 2) := by decide +kernel
theorem dX10_isOrder_214 : decode cX10_isOrder 214 = .ok (.aload_n 0, 1) := by decide +kernel
theorem dX10_isOrder_215 : decode cX10_isOrder 215 = .ok (.getfield 65, 3) := by decide +kernel
theorem dX10_isOrder_218 : decode cX10_isOrder 218 = .ok (.iload 6, 2) := by decide +kernel
theorem dX10_isOrder_220 : decode cX10_isOrder 220 = .ok (.iaload, 1) := by decide +kernel
theorem dX10_isOrder_221 : decode cX10_isOrder 221 = .ok (.iastore, 1) := by decide +kernel
theorem dX10_isOrder_222 : decode cX10_isOrder 222 = .ok (.iinc 6 1, 3) := by decide +kernel
theorem dX10_isOrder_225 : decode cX10_isOrder 225 = .ok (.goto (-24), 3) := by decide +kernel
theorem dX10_isOrder_228 : decode cX10_isOrder 228 = .ok (.iload 5, 2) := by decide +kernel
theorem dX10_isOrder_230 : decode cX10_isOrder 230 = .ok (.ireturn, 1) := by decide +kernel
theorem dX10_order_0 : decode cX10_order 0 = .ok (.aload_n 0, 1) := by decide +kernel
theorem dX10_order_1 : decode cX10_order 1 = .ok (.iload_n 1, 1) := by decide +kernel
theorem dX10_order_2 : decode cX10_order 2 = .ok (.invokevirtual 275, 3) := by decide +kernel
theorem dX10_order_5 : decode cX10_order 5 = .ok (.ifCond .ne 6, 3) := by decide +kernel
theorem dX10_order_8 : decode cX10_order 8 = .ok (.ldc 207, 2) := by decide +kernel
theorem dX10_order_10 : decode cX10_order 10 = .ok (.ireturn, 1) := by decide +kernel
theorem dX10_order_11 : decode cX10_order 11 = .ok (.iload_n 1, 1) := by decide +kernel
theorem dX10_order_12 : decode cX10_order 12 = .ok (.invokestatic 272, 3) := by decide +kernel
theorem dX10_order_15 : decode cX10_order 15 = .ok (.istore_n 3, 1) := by decide +kernel
theorem dX10_order_16 : decode cX10_order 16 = .ok (.iload_n 3, 1) := by decide +kernel
theorem dX10_order_17 : decode cX10_order 17 = .ok (.bipush 6, 2) := by decide +kernel
theorem dX10_order_19 : decode cX10_order 19 = .ok (.if_icmp .le 6, 3) := by decide +kernel
theorem dX10_order_22 : decode cX10_order 22 = .ok (.ldc 111, 2) := by decide +kernel
theorem dX10_order_24 : decode cX10_order 24 = .ok (.ireturn, 1) := by decide +kernel
theorem dX10_order_25 : decode cX10_order 25 = .ok (.iload_n 2, 1) := by decide +kernel
theorem dX10_order_26 : decode cX10_order 26 = .ok (.i2l, 1) := by decide +kernel
theorem dX10_order_27 : decode cX10_order 27 = .ok (.lconst 0, 1) := by decide +kernel
theorem dX10_order_28 : decode cX10_order 28 = .ok (.iload_n 3, 1) := by decide +kernel
theorem dX10_order_29 : decode cX10_order 29 = .ok (.iconst 1, 1) := by decide +kernel
theorem dX10_order_30 : decode cX10_order 30 = .ok (.isub, 1) := by decide +kernel
theorem dX10_order_31 : decode cX10_order 31 = .ok (.i2l, 1) := by decide +kernel
theorem dX10_order_32 : decode cX10_order 32 = .ok (.invokestatic 105, 3) := by decide +kernel
theorem dX10_order_35 : decode cX10_order 35 = .ok (.ifCond .ne 5, 3) := by decide +kernel
theorem dX10_order_38 : decode cX10_order 38 = .ok (.iconst (-1), 1) := by decide +kernel
theorem dX10_order_39 : decode cX10_order 39 = .ok (.ireturn, 1) := by decide +kernel
theorem dX10_order_40 : decode cX10_order 40 = .ok (.iconst 0, 1) := by decide +kernel
theorem dX10_order_41 : decode cX10_order 41 = .ok (.istore 4, 2) := by decide +kernel
theorem dX10_order_43 : decode cX10_order 43 = .ok (.iload 4, 2) := by decide +kernel
theorem dX10_order_45 : decode cX10_order 45 = .ok (.iconst 1, 1) := by decide +kernel
theorem dX10_order_46 : decode cX10_order 46 = .ok (.iconst 3, 1) := by decide +kernel
theorem dX10_order_47 : decode cX10_order 47 = .ok (.iload_n 3, 1) := by decide +kernel
theorem dX10_order_48 : decode cX10_order 48 = .ok (.imul, 1) := by decide +kernel
theorem dX10_order_49 : decode cX10_order 49 = .ok (.ishl, 1) := by decide +kernel
theorem dX10_order_50 : decode cX10_order 50 = .ok (.if_icmp .ge 28, 3) := by decide +kernel
theorem dX10_order_53 : decode cX10_order 53 = .ok (.aload_n 0, 1) := by decide +kernel
theorem dX10_order_54 : decode cX10_order 54 = .ok (.iload 4, 2) := by decide +kernel
theorem dX10_order_56 : decode cX10_order 56 = .ok (.iload_n 3, 1) := by decide +kernel
theorem dX10_order_57 : decode cX10_order 57 = .ok (.iload_n 1, 1) := by decide +kernel
theorem dX10_order_58 : decode cX10_order 58 = .ok (.invokevirtual 278, 3) := by decide +kernel
theorem dX10_order_61 : decode cX10_order 61 = .ok (.ifCond .eq 11, 3) := by decide +kernel
theorem dX10_order_64 : decode cX10_order 64 = .ok (.iload 4, 2) := by decide +kernel
theorem dX10_order_66 : decode cX10_order 66 = .ok (.iload_n 3, 1) := by decide +kernel
theorem dX10_order_67 : decode cX10_order 67 = .ok (.iload_n 2, 1) := by decide +kernel
theorem dX10_order_68 : decode cX10_order 68 = .ok (.invokestatic 268, 3) := by decide +kernel
theorem dX10_order_71 : decode cX10_order 71 = .ok (.ireturn, 1) := by decide +kernel
theorem dX10_order_72 : decode cX10_order 72 = .ok (.iinc 4 1, 3) := by decide +kernel
theorem dX10_order_75 : decode cX10_order 75 = .ok (.goto (-32), 3) := by decide +kernel
theorem dX10_order_78 : decode cX10_order 78 = .ok (.iconst (-1), 1) := by decide +kernel
theorem dX10_order_79 : decode cX10_order 79 = .ok (.ireturn, 1) := by decide +kernel
theorem dX10_signers_0 : decode cX10_signers 0 = .ok (.aload_n 0, 1) := by decide +kernel
theorem dX10_signers_1 : decode cX10_signers 1 = .ok (.iload_n 1, 1) := by decide +kernel
theorem dX10_signers_2 : decode cX10_signers 2 = .ok (.invokevirtual 204, 3) := by decide +kernel
theorem dX10_signers_5 : decode cX10_signers 5 = .ok (.ifCond .ne 6, 3) := by decide +kernel
theorem dX10_signers_8 : decode cX10_signers 8 = .ok (.ldc 207, 2) := by decide +kernel
theorem dX10_signers_10 : decode cX10_signers 10 = .ok (.ireturn, 1) := by decide +kernel
theorem dX10_signers_11 : decode cX10_signers 11 = .ok (.iconst 0, 1) := by decide +kernel
theorem dX10_signers_12 : decode cX10_signers 12 = .ok (.istore_n 2, 1) := by decide +kernel
theorem dX10_signers_13 : decode cX10_signers 13 = .ok (.iconst 0, 1) := by decide +kernel
theorem dX10_signers_14 : decode cX10_signers 14 = .ok (.istore_n 3, 1) := by decide +kernel
theorem dX10_signers_15 : decode cX10_signers 15 = .ok (.iload_n 3, 1) := by decide +kernel
theorem dX10_signers_16 : decode cX10_signers 16 = .ok (.aload_n 0, 1) := by decide +kernel
theorem dX10_signers_17 : decode cX10_signers 17 = .ok (.getfield 102, 3) := by decide +kernel
theorem dX10_signers_20 : decode cX10_signers 20 = .ok (.if_icmp .ge 28, 3) := by decide +kernel
theorem dX10_signers_23 : decode cX10_signers 23 = .ok (.iload_n 2, 1) := by decide +kernel
theorem dX10_signers_24 : decode cX10_signers 24 = .ok (.aload_n 0, 1) := by decide +kernel
theorem dX10_signers_25 : decode cX10_signers 25 = .ok (.iload_n 3, 1) := by decide +kernel
theorem dX10_signers_26 : decode cX10_signers 26 = .ok (.invokevirtual 211, 3) := by decide +kernel
theorem dX10_signers_29 : decode cX10_signers 29 = .ok (.iload_n 1, 1) := by decide +kernel
theorem dX10_signers_30 : decode cX10_signers 30 = .ok (.if_icmp .ne 9, 3) := by decide +kernel
theorem dX10_signers_33 : decode cX10_signers 33 = .ok (.iconst 1, 1) := by decide +kernel
theorem dX10_signers_34 : decode cX10_signers 34 = .ok (.iload_n 3, 1) := by decide +kernel
theorem dX10_signers_35 : decode cX10_signers 35 = .ok (.ishl, 1) := by decide +kernel
theorem dX10_signers_36 : decode cX10_signers 36 = .ok (.goto 4, 3) := by decide +kernel
theorem dX10_signers_39 : decode cX10_signers 39 = .ok (.iconst 0, 1) := by decide +kernel
theorem dX10_signers_40 : decode cX10_signers 40 = .ok (.ior, 1) := by decide +kernel
theorem dX10_signers_41 : decode cX10_signers 41 = .ok (.istore_n 2, 1) := by decide +kernel
theorem dX10_signers_42 : decode cX10_signers 42 = .ok (.iinc 3 1, 3) := by decide +kernel
theorem dX10_signers_45 : decode cX10_signers 45 = .ok (.goto (-30), 3) := by decide +kernel
theorem dX10_signers_48 : decode cX10_signers 48 = .ok (.iload_n 2, 1) := by decide +kernel
theorem dX10_signers_49 : decode cX10_signers 49 = .ok (.ireturn, 1) := by decide +kernel
theorem dX10_isFarOf_0 : decode cX10_isFarOf 0 = .ok (.aload_n 0, 1) := by decide +kernel
theorem dX10_isFarOf_1 : decode cX10_isFarOf 1 = .ok (.getfield 16, 3) := by decide +kernel
theorem dX10_isFarOf_4 : decode cX10_isFarOf 4 = .ok (.iload_n 1, 1) := by decide +kernel
theorem dX10_isFarOf_5 : decode cX10_isFarOf 5 = .ok (.iaload, 1) := by decide +kernel
theorem dX10_isFarOf_6 : decode cX10_isFarOf 6 = .ok (.aload_n 0, 1) := by decide +kernel
theorem dX10_isFarOf_7 : decode cX10_isFarOf 7 = .ok (.getfield 16, 3) := by decide +kernel
theorem dX10_isFarOf_10 : decode cX10_isFarOf 10 = .ok (.iload_n 2, 1) := by decide +kernel
theorem dX10_isFarOf_11 : decode cX10_isFarOf 11 = .ok (.iaload, 1) := by decide +kernel
theorem dX10_isFarOf_12 : decode cX10_isFarOf 12 = .ok (.if_icmp .ne 7, 3) := by decide +kernel
theorem dX10_isFarOf_15 : decode cX10_isFarOf 15 = .ok (.iconst 1, 1) := by decide +kernel
theorem dX10_isFarOf_16 : decode cX10_isFarOf 16 = .ok (.goto 4, 3) := by decide +kernel
theorem dX10_isFarOf_19 : decode cX10_isFarOf 19 = .ok (.iconst 0, 1) := by decide +kernel
theorem dX10_isFarOf_20 : decode cX10_isFarOf 20 = .ok (.istore_n 3, 1) := by decide +kernel
theorem dX10_isFarOf_21 : decode cX10_isFarOf 21 = .ok (.iconst 0, 1) := by decide +kernel
theorem dX10_isFarOf_22 : decode cX10_isFarOf 22 = .ok (.istore 4, 2) := by decide +kernel
theorem dX10_isFarOf_24 : decode cX10_isFarOf 24 = .ok (.iload 4, 2) := by decide +kernel
theorem dX10_isFarOf_26 : decode cX10_isFarOf 26 = .ok (.aload_n 0, 1) := by decide +kernel
theorem dX10_isFarOf_27 : decode cX10_isFarOf 27 = .ok (.getfield 16, 3) := by decide +kernel
theorem dX10_isFarOf_30 : decode cX10_isFarOf 30 = .ok (.iload_n 1, 1) := by decide +kernel
theorem dX10_isFarOf_31 : decode cX10_isFarOf 31 = .ok (.iaload, 1) := by decide +kernel
theorem dX10_isFarOf_32 : decode cX10_isFarOf 32 = .ok (.if_icmp .ge 53, 3) := by decide +kernel
theorem dX10_isFarOf_35 : decode cX10_isFarOf 35 = .ok (.iload_n 3, 1) := by decide +kernel
theorem dX10_isFarOf_36 : decode cX10_isFarOf 36 = .ok (.ifCond .eq 49, 3) := by decide +kernel
theorem dX10_isFarOf_39 : decode cX10_isFarOf 39 = .ok (.aload_n 0, 1) := by decide +kernel
theorem dX10_isFarOf_40 : decode cX10_isFarOf 40 = .ok (.getfield 19, 3) := by decide +kernel
theorem dX10_isFarOf_43 : decode cX10_isFarOf 43 = .ok (.iconst 5, 1) := by decide +kernel
theorem dX10_isFarOf_44 : decode cX10_isFarOf 44 = .ok (.iload_n 1, 1) := by decide +kernel
theorem dX10_isFarOf_45 : decode cX10_isFarOf 45 = .ok (.imul, 1) := by decide +kernel
theorem dX10_isFarOf_46 : decode cX10_isFarOf 46 = .ok (.aload_n 0, 1) := by decide +kernel
theorem dX10_isFarOf_47 : decode cX10_isFarOf 47 = .ok (.getfield 16, 3) := by decide +kernel
theorem dX10_isFarOf_50 : decode cX10_isFarOf 50 = .ok (.iload_n 1, 1) := by decide +kernel
theorem dX10_isFarOf_51 : decode cX10_isFarOf 51 = .ok (.iaload, 1) := by decide +kernel
theorem dX10_isFarOf_52 : decode cX10_isFarOf 52 = .ok (.iadd, 1) := by decide +kernel
theorem dX10_isFarOf_53 : decode cX10_isFarOf 53 = .ok (.iconst 1, 1) := by decide +kernel
theorem dX10_isFarOf_54 : decode cX10_isFarOf 54 = .ok (.isub, 1) := by decide +kernel
theorem dX10_isFarOf_55 : decode cX10_isFarOf 55 = .ok (.iload 4, 2) := by decide +kernel
theorem dX10_isFarOf_57 : decode cX10_isFarOf 57 = .ok (.isub, 1) := by decide +kernel
theorem dX10_isFarOf_58 : decode cX10_isFarOf 58 = .ok (.iaload, 1) := by decide +kernel
theorem dX10_isFarOf_59 : decode cX10_isFarOf 59 = .ok (.aload_n 0, 1) := by decide +kernel
theorem dX10_isFarOf_60 : decode cX10_isFarOf 60 = .ok (.getfield 19, 3) := by decide +kernel
theorem dX10_isFarOf_63 : decode cX10_isFarOf 63 = .ok (.iconst 5, 1) := by decide +kernel
theorem dX10_isFarOf_64 : decode cX10_isFarOf 64 = .ok (.iload_n 2, 1) := by decide +kernel
theorem dX10_isFarOf_65 : decode cX10_isFarOf 65 = .ok (.imul, 1) := by decide +kernel
theorem dX10_isFarOf_66 : decode cX10_isFarOf 66 = .ok (.iload 4, 2) := by decide +kernel
theorem dX10_isFarOf_68 : decode cX10_isFarOf 68 = .ok (.iadd, 1) := by decide +kernel
theorem dX10_isFarOf_69 : decode cX10_isFarOf 69 = .ok (.iaload, 1) := by decide +kernel
theorem dX10_isFarOf_70 : decode cX10_isFarOf 70 = .ok (.if_icmp .ne 7, 3) := by decide +kernel
theorem dX10_isFarOf_73 : decode cX10_isFarOf 73 = .ok (.iconst 1, 1) := by decide +kernel
theorem dX10_isFarOf_74 : decode cX10_isFarOf 74 = .ok (.goto 4, 3) := by decide +kernel
theorem dX10_isFarOf_77 : decode cX10_isFarOf 77 = .ok (.iconst 0, 1) := by decide +kernel
theorem dX10_isFarOf_78 : decode cX10_isFarOf 78 = .ok (.istore_n 3, 1) := by decide +kernel
theorem dX10_isFarOf_79 : decode cX10_isFarOf 79 = .ok (.iinc 4 1, 3) := by decide +kernel
theorem dX10_isFarOf_82 : decode cX10_isFarOf 82 = .ok (.goto (-58), 3) := by decide +kernel
theorem dX10_isFarOf_85 : decode cX10_isFarOf 85 = .ok (.iload_n 3, 1) := by decide +kernel
theorem dX10_isFarOf_86 : decode cX10_isFarOf 86 = .ok (.ireturn, 1) := by decide +kernel
theorem dX10_farShore_0 : decode cX10_farShore 0 = .ok (.iload_n 1, 1) := by decide +kernel
theorem dX10_farShore_1 : decode cX10_farShore 1 = .ok (.i2l, 1) := by decide +kernel
theorem dX10_farShore_2 : decode cX10_farShore 2 = .ok (.lconst 0, 1) := by decide +kernel
theorem dX10_farShore_3 : decode cX10_farShore 3 = .ok (.lconst 1, 1) := by decide +kernel
theorem dX10_farShore_4 : decode cX10_farShore 4 = .ok (.invokestatic 105, 3) := by decide +kernel
theorem dX10_farShore_7 : decode cX10_farShore 7 = .ok (.ifCond .ne 6, 3) := by decide +kernel
theorem dX10_farShore_10 : decode cX10_farShore 10 = .ok (.ldc 111, 2) := by decide +kernel
theorem dX10_farShore_12 : decode cX10_farShore 12 = .ok (.ireturn, 1) := by decide +kernel
theorem dX10_farShore_13 : decode cX10_farShore 13 = .ok (.iconst 0, 1) := by decide +kernel
theorem dX10_farShore_14 : decode cX10_farShore 14 = .ok (.istore_n 2, 1) := by decide +kernel
theorem dX10_farShore_15 : decode cX10_farShore 15 = .ok (.iconst 0, 1) := by decide +kernel
theorem dX10_farShore_16 : decode cX10_farShore 16 = .ok (.istore_n 3, 1) := by decide +kernel
theorem dX10_farShore_17 : decode cX10_farShore 17 = .ok (.iload_n 3, 1) := by decide +kernel
theorem dX10_farShore_18 : decode cX10_farShore 18 = .ok (.aload_n 0, 1) := by decide +kernel
theorem dX10_farShore_19 : decode cX10_farShore 19 = .ok (.getfield 102, 3) := by decide +kernel
theorem dX10_farShore_22 : decode cX10_farShore 22 = .ok (.if_icmp .ge 70, 3) := by decide +kernel
theorem dX10_farShore_25 : decode cX10_farShore 25 = .ok (.iconst 0, 1) := by decide +kernel
theorem dX10_farShore_26 : decode cX10_farShore 26 = .ok (.istore 4, 2) := by decide +kernel
theorem dX10_farShore_28 : decode cX10_farShore 28 = .ok (.iload 4, 2) := by decide +kernel
theorem dX10_farShore_30 : decode cX10_farShore 30 = .ok (.aload_n 0, 1) := by decide +kernel
theorem dX10_farShore_31 : decode cX10_farShore 31 = .ok (.getfield 102, 3) := by decide +kernel
theorem dX10_farShore_34 : decode cX10_farShore 34 = .ok (.if_icmp .ge 52, 3) := by decide +kernel
theorem dX10_farShore_37 : decode cX10_farShore 37 = .ok (.iload_n 2, 1) := by decide +kernel
theorem dX10_farShore_38 : decode cX10_farShore 38 = .ok (.iload_n 1, 1) := by decide +kernel
theorem dX10_farShore_39 : decode cX10_farShore 39 = .ok (.ifCond .ne 7, 3) := by decide +kernel
theorem dX10_farShore_42 : decode cX10_farShore 42 = .ok (.iconst 1, 1) := by decide +kernel
theorem dX10_farShore_43 : decode cX10_farShore 43 = .ok (.goto 4, 3) := by decide +kernel
theorem dX10_farShore_46 : decode cX10_farShore 46 = .ok (.iconst 0, 1) := by decide +kernel
theorem dX10_farShore_47 : decode cX10_farShore 47 = .ok (.iload 4, 2) := by decide +kernel
theorem dX10_farShore_49 : decode cX10_farShore 49 = .ok (.iload_n 3, 1) := by decide +kernel
theorem dX10_farShore_50 : decode cX10_farShore 50 = .ok (.if_icmp .eq 7, 3) := by decide +kernel
theorem dX10_farShore_53 : decode cX10_farShore 53 = .ok (.iconst 1, 1) := by decide +kernel
theorem dX10_farShore_54 : decode cX10_farShore 54 = .ok (.goto 4, 3) := by decide +kernel
theorem dX10_farShore_57 : decode cX10_farShore 57 = .ok (.iconst 0, 1) := by decide +kernel
theorem dX10_farShore_58 : decode cX10_farShore 58 = .ok (.if_icmp .ne 19, 3) := by decide +kernel
theorem dX10_farShore_61 : decode cX10_farShore 61 = .ok (.aload_n 0, 1) := by decide +kernel
theorem dX10_farShore_62 : decode cX10_farShore 62 = .ok (.iload_n 3, 1) := by decide +kernel
theorem dX10_farShore_63 : decode cX10_farShore 63 = .ok (.iload 4, 2) := by decide +kernel
theorem dX10_farShore_65 : decode cX10_farShore 65 = .ok (.invokevirtual 282, 3) := by decide +kernel
theorem dX10_farShore_68 : decode cX10_farShore 68 = .ok (.ifCond .eq 9, 3) := by decide +kernel
theorem dX10_farShore_71 : decode cX10_farShore 71 = .ok (.iconst 1, 1) := by decide +kernel
theorem dX10_farShore_72 : decode cX10_farShore 72 = .ok (.iload_n 3, 1) := by decide +kernel
theorem dX10_farShore_73 : decode cX10_farShore 73 = .ok (.ishl, 1) := by decide +kernel
theorem dX10_farShore_74 : decode cX10_farShore 74 = .ok (.goto 4, 3) := by decide +kernel
theorem dX10_farShore_77 : decode cX10_farShore 77 = .ok (.iconst 0, 1) := by decide +kernel
theorem dX10_farShore_78 : decode cX10_farShore 78 = .ok (.ior, 1) := by decide +kernel
theorem dX10_farShore_79 : decode cX10_farShore 79 = .ok (.istore_n 2, 1) := by decide +kernel
theorem dX10_farShore_80 : decode cX10_farShore 80 = .ok (.iinc 4 1, 3) := by decide +kernel
theorem dX10_farShore_83 : decode cX10_farShore 83 = .ok (.goto (-55), 3) := by decide +kernel
theorem dX10_farShore_86 : decode cX10_farShore 86 = .ok (.iinc 3 1, 3) := by decide +kernel
theorem dX10_farShore_89 : decode cX10_farShore 89 = .ok (.goto (-72), 3) := by decide +kernel
theorem dX10_farShore_92 : decode cX10_farShore 92 = .ok (.iload_n 2, 1) := by decide +kernel
theorem dX10_farShore_93 : decode cX10_farShore 93 = .ok (.ireturn, 1) := by decide +kernel
theorem dX10_cross_0 : decode cX10_cross 0 = .ok (.aload_n 0, 1) := by decide +kernel
theorem dX10_cross_1 : decode cX10_cross 1 = .ok (.iload_n 1, 1) := by decide +kernel
theorem dX10_cross_2 : decode cX10_cross 2 = .ok (.iload_n 2, 1) := by decide +kernel
theorem dX10_cross_3 : decode cX10_cross 3 = .ok (.invokevirtual 226, 3) := by decide +kernel
theorem dX10_cross_6 : decode cX10_cross 6 = .ok (.ifCond .ne 6, 3) := by decide +kernel
theorem dX10_cross_9 : decode cX10_cross 9 = .ok (.ldc 207, 2) := by decide +kernel
theorem dX10_cross_11 : decode cX10_cross 11 = .ok (.ireturn, 1) := by decide +kernel
theorem dX10_cross_12 : decode cX10_cross 12 = .ok (.iconst (-1), 1) := by decide +kernel
theorem dX10_cross_13 : decode cX10_cross 13 = .ok (.istore_n 3, 1) := by decide +kernel
theorem dX10_cross_14 : decode cX10_cross 14 = .ok (.iconst 0, 1) := by decide +kernel
theorem dX10_cross_15 : decode cX10_cross 15 = .ok (.istore 4, 2) := by decide +kernel
theorem dX10_cross_17 : decode cX10_cross 17 = .ok (.iload 4, 2) := by decide +kernel
theorem dX10_cross_19 : decode cX10_cross 19 = .ok (.aload_n 0, 1) := by decide +kernel
theorem dX10_cross_20 : decode cX10_cross 20 = .ok (.getfield 102, 3) := by decide +kernel
theorem dX10_cross_23 : decode cX10_cross 23 = .ok (.if_icmp .ge 60, 3) := by decide +kernel
theorem dX10_cross_26 : decode cX10_cross 26 = .ok (.aload_n 0, 1) := by decide +kernel
theorem dX10_cross_27 : decode cX10_cross 27 = .ok (.getfield 7, 3) := by decide +kernel
theorem dX10_cross_30 : decode cX10_cross 30 = .ok (.iload_n 1, 1) := by decide +kernel
theorem dX10_cross_31 : decode cX10_cross 31 = .ok (.iaload, 1) := by decide +kernel
theorem dX10_cross_32 : decode cX10_cross 32 = .ok (.aload_n 0, 1) := by decide +kernel
theorem dX10_cross_33 : decode cX10_cross 33 = .ok (.getfield 7, 3) := by decide +kernel
theorem dX10_cross_36 : decode cX10_cross 36 = .ok (.iload_n 2, 1) := by decide +kernel
theorem dX10_cross_37 : decode cX10_cross 37 = .ok (.iaload, 1) := by decide +kernel
theorem dX10_cross_38 : decode cX10_cross 38 = .ok (.invokestatic 217, 3) := by decide +kernel
theorem dX10_cross_41 : decode cX10_cross 41 = .ok (.iconst 2, 1) := by decide +kernel
theorem dX10_cross_42 : decode cX10_cross 42 = .ok (.if_icmp .ne 33, 3) := by decide +kernel
theorem dX10_cross_45 : decode cX10_cross 45 = .ok (.iconst 2, 1) := by decide +kernel
theorem dX10_cross_46 : decode cX10_cross 46 = .ok (.aload_n 0, 1) := by decide +kernel
theorem dX10_cross_47 : decode cX10_cross 47 = .ok (.getfield 7, 3) := by decide +kernel
theorem dX10_cross_50 : decode cX10_cross 50 = .ok (.iload 4, 2) := by decide +kernel
theorem dX10_cross_52 : decode cX10_cross 52 = .ok (.iaload, 1) := by decide +kernel
theorem dX10_cross_53 : decode cX10_cross 53 = .ok (.imul, 1) := by decide +kernel
theorem dX10_cross_54 : decode cX10_cross 54 = .ok (.aload_n 0, 1) := by decide +kernel
theorem dX10_cross_55 : decode cX10_cross 55 = .ok (.getfield 7, 3) := by decide +kernel
theorem dX10_cross_58 : decode cX10_cross 58 = .ok (.iload_n 1, 1) := by decide +kernel
theorem dX10_cross_59 : decode cX10_cross 59 = .ok (.iaload, 1) := by decide +kernel
theorem dX10_cross_60 : decode cX10_cross 60 = .ok (.aload_n 0, 1) := by decide +kernel
theorem dX10_cross_61 : decode cX10_cross 61 = .ok (.getfield 7, 3) := by decide +kernel
theorem dX10_cross_64 : decode cX10_cross 64 = .ok (.iload_n 2, 1) := by decide +kernel
theorem dX10_cross_65 : decode cX10_cross 65 = .ok (.iaload, 1) := by decide +kernel
theorem dX10_cross_66 : decode cX10_cross 66 = .ok (.iadd, 1) := by decide +kernel
theorem dX10_cross_67 : decode cX10_cross 67 = .ok (.if_icmp .ne 8, 3) := by decide +kernel
theorem dX10_cross_70 : decode cX10_cross 70 = .ok (.iload 4, 2) := by decide +kernel
theorem dX10_cross_72 : decode cX10_cross 72 = .ok (.goto 4, 3) := by decide +kernel
theorem dX10_cross_75 : decode cX10_cross 75 = .ok (.iload_n 3, 1) := by decide +kernel
theorem dX10_cross_76 : decode cX10_cross 76 = .ok (.istore_n 3, 1) := by decide +kernel
theorem dX10_cross_77 : decode cX10_cross 77 = .ok (.iinc 4 1, 3) := by decide +kernel
theorem dX10_cross_80 : decode cX10_cross 80 = .ok (.goto (-63), 3) := by decide +kernel
theorem dX10_cross_83 : decode cX10_cross 83 = .ok (.iload_n 3, 1) := by decide +kernel
theorem dX10_cross_84 : decode cX10_cross 84 = .ok (.ireturn, 1) := by decide +kernel
theorem dX10_treaty_0 : decode cX10_treaty 0 = .ok (.aload_n 0, 1) := by decide +kernel
theorem dX10_treaty_1 : decode cX10_treaty 1 = .ok (.iload_n 1, 1) := by decide +kernel
theorem dX10_treaty_2 : decode cX10_treaty 2 = .ok (.invokevirtual 275, 3) := by decide +kernel
theorem dX10_treaty_5 : decode cX10_treaty 5 = .ok (.ifCond .ne 6, 3) := by decide +kernel
theorem dX10_treaty_8 : decode cX10_treaty 8 = .ok (.ldc 207, 2) := by decide +kernel
theorem dX10_treaty_10 : decode cX10_treaty 10 = .ok (.ireturn, 1) := by decide +kernel
theorem dX10_treaty_11 : decode cX10_treaty 11 = .ok (.iconst 0, 1) := by decide +kernel
theorem dX10_treaty_12 : decode cX10_treaty 12 = .ok (.istore_n 2, 1) := by decide +kernel
theorem dX10_treaty_13 : decode cX10_treaty 13 = .ok (.iconst 0, 1) := by decide +kernel
theorem dX10_treaty_14 : decode cX10_treaty 14 = .ok (.istore_n 3, 1) := by decide +kernel
theorem dX10_treaty_15 : decode cX10_treaty 15 = .ok (.iload_n 3, 1) := by decide +kernel
end
section
theorem dX10_treaty_16 : decode cX10_treaty 16 = .ok (.aload_n 0, 1) := by decide +kernel
theorem dX10_treaty_17 : decode cX10_treaty 17 = .ok (.getfield 102, 3) := by decide +kernel
theorem dX10_treaty_20 : decode cX10_treaty 20 = .ok (.if_icmp .ge 105, 3) := by decide +kernel
theorem dX10_treaty_23 : decode cX10_treaty 23 = .ok (.iconst 0, 1) := by decide +kernel
theorem dX10_treaty_24 : decode cX10_treaty 24 = .ok (.istore 4, 2) := by decide +kernel
theorem dX10_treaty_26 : decode cX10_treaty 26 = .ok (.iconst 0, 1) := by decide +kernel
theorem dX10_treaty_27 : decode cX10_treaty 27 = .ok (.istore 5, 2) := by decide +kernel
theorem dX10_treaty_29 : decode cX10_treaty 29 = .ok (.iload 5, 2) := by decide +kernel
theorem dX10_treaty_31 : decode cX10_treaty 31 = .ok (.aload_n 0, 1) := by decide +kernel
theorem dX10_treaty_32 : decode cX10_treaty 32 = .ok (.getfield 102, 3) := by decide +kernel
theorem dX10_treaty_35 : decode cX10_treaty 35 = .ok (.if_icmp .ge 67, 3) := by decide +kernel
theorem dX10_treaty_38 : decode cX10_treaty 38 = .ok (.iload 5, 2) := by decide +kernel
theorem dX10_treaty_40 : decode cX10_treaty 40 = .ok (.iload_n 3, 1) := by decide +kernel
theorem dX10_treaty_41 : decode cX10_treaty 41 = .ok (.if_icmp .eq 36, 3) := by decide +kernel
theorem dX10_treaty_44 : decode cX10_treaty 44 = .ok (.iload_n 1, 1) := by decide +kernel
theorem dX10_treaty_45 : decode cX10_treaty 45 = .ok (.iload 5, 2) := by decide +kernel
theorem dX10_treaty_47 : decode cX10_treaty 47 = .ok (.invokestatic 194, 3) := by decide +kernel
theorem dX10_treaty_50 : decode cX10_treaty 50 = .ok (.ifCond .eq 27, 3) := by decide +kernel
theorem dX10_treaty_53 : decode cX10_treaty 53 = .ok (.aload_n 0, 1) := by decide +kernel
theorem dX10_treaty_54 : decode cX10_treaty 54 = .ok (.iload_n 3, 1) := by decide +kernel
theorem dX10_treaty_55 : decode cX10_treaty 55 = .ok (.invokevirtual 214, 3) := by decide +kernel
theorem dX10_treaty_58 : decode cX10_treaty 58 = .ok (.aload_n 0, 1) := by decide +kernel
theorem dX10_treaty_59 : decode cX10_treaty 59 = .ok (.getfield 7, 3) := by decide +kernel
theorem dX10_treaty_62 : decode cX10_treaty 62 = .ok (.iload 5, 2) := by decide +kernel
theorem dX10_treaty_64 : decode cX10_treaty 64 = .ok (.iaload, 1) := by decide +kernel
theorem dX10_treaty_65 : decode cX10_treaty 65 = .ok (.invokestatic 217, 3) := by decide +kernel
theorem dX10_treaty_68 : decode cX10_treaty 68 = .ok (.aload_n 0, 1) := by decide +kernel
theorem dX10_treaty_69 : decode cX10_treaty 69 = .ok (.iload_n 3, 1) := by decide +kernel
theorem dX10_treaty_70 : decode cX10_treaty 70 = .ok (.invokevirtual 220, 3) := by decide +kernel
theorem dX10_treaty_73 : decode cX10_treaty 73 = .ok (.isub, 1) := by decide +kernel
theorem dX10_treaty_74 : decode cX10_treaty 74 = .ok (.goto 4, 3) := by decide +kernel
theorem dX10_treaty_77 : decode cX10_treaty 77 = .ok (.iconst 0, 1) := by decide +kernel
theorem dX10_treaty_78 : decode cX10_treaty 78 = .ok (.istore 6, 2) := by decide +kernel
theorem dX10_treaty_80 : decode cX10_treaty 80 = .ok (.iload 6, 2) := by decide +kernel
theorem dX10_treaty_82 : decode cX10_treaty 82 = .ok (.iload 4, 2) := by decide +kernel
theorem dX10_treaty_84 : decode cX10_treaty 84 = .ok (.if_icmp .le 8, 3) := by decide +kernel
theorem dX10_treaty_87 : decode cX10_treaty 87 = .ok (.iload 6, 2) := by decide +kernel
theorem dX10_treaty_89 : decode cX10_treaty 89 = .ok (.goto 5, 3) := by decide +kernel
theorem dX10_treaty_92 : decode cX10_treaty 92 = .ok (.iload 4, 2) := by decide +kernel
theorem dX10_treaty_94 : decode cX10_treaty 94 = .ok (.istore 4, 2) := by decide +kernel
theorem dX10_treaty_96 : decode cX10_treaty 96 = .ok (.iinc 5 1, 3) := by decide +kernel
theorem dX10_treaty_99 : decode cX10_treaty 99 = .ok (.goto (-70), 3) := by decide +kernel
theorem dX10_treaty_102 : decode cX10_treaty 102 = .ok (.iload_n 2, 1) := by decide +kernel
theorem dX10_treaty_103 : decode cX10_treaty 103 = .ok (.iload_n 1, 1) := by decide +kernel
theorem dX10_treaty_104 : decode cX10_treaty 104 = .ok (.iload_n 3, 1) := by decide +kernel
theorem dX10_treaty_105 : decode cX10_treaty 105 = .ok (.invokestatic 194, 3) := by decide +kernel
theorem dX10_treaty_108 : decode cX10_treaty 108 = .ok (.ifCond .eq 8, 3) := by decide +kernel
theorem dX10_treaty_111 : decode cX10_treaty 111 = .ok (.iload 4, 2) := by decide +kernel
theorem dX10_treaty_113 : decode cX10_treaty 113 = .ok (.goto 4, 3) := by decide +kernel
theorem dX10_treaty_116 : decode cX10_treaty 116 = .ok (.iconst 0, 1) := by decide +kernel
theorem dX10_treaty_117 : decode cX10_treaty 117 = .ok (.iadd, 1) := by decide +kernel
theorem dX10_treaty_118 : decode cX10_treaty 118 = .ok (.istore_n 2, 1) := by decide +kernel
theorem dX10_treaty_119 : decode cX10_treaty 119 = .ok (.iinc 3 1, 3) := by decide +kernel
theorem dX10_treaty_122 : decode cX10_treaty 122 = .ok (.goto (-107), 3) := by decide +kernel
theorem dX10_treaty_125 : decode cX10_treaty 125 = .ok (.iload_n 2, 1) := by decide +kernel
theorem dX10_treaty_126 : decode cX10_treaty 126 = .ok (.ireturn, 1) := by decide +kernel
theorem dX10_figuresOf_0 : decode cX10_figuresOf 0 = .ok (.iconst 0, 1) := by decide +kernel
theorem dX10_figuresOf_1 : decode cX10_figuresOf 1 = .ok (.istore_n 2, 1) := by decide +kernel
theorem dX10_figuresOf_2 : decode cX10_figuresOf 2 = .ok (.iload_n 1, 1) := by decide +kernel
theorem dX10_figuresOf_3 : decode cX10_figuresOf 3 = .ok (.istore_n 3, 1) := by decide +kernel
theorem dX10_figuresOf_4 : decode cX10_figuresOf 4 = .ok (.iload_n 3, 1) := by decide +kernel
theorem dX10_figuresOf_5 : decode cX10_figuresOf 5 = .ok (.ifCond .le 14, 3) := by decide +kernel
theorem dX10_figuresOf_8 : decode cX10_figuresOf 8 = .ok (.iinc 2 1, 3) := by decide +kernel
theorem dX10_figuresOf_11 : decode cX10_figuresOf 11 = .ok (.iload_n 3, 1) := by decide +kernel
theorem dX10_figuresOf_12 : decode cX10_figuresOf 12 = .ok (.bipush 10, 2) := by decide +kernel
theorem dX10_figuresOf_14 : decode cX10_figuresOf 14 = .ok (.idiv, 1) := by decide +kernel
theorem dX10_figuresOf_15 : decode cX10_figuresOf 15 = .ok (.istore_n 3, 1) := by decide +kernel
theorem dX10_figuresOf_16 : decode cX10_figuresOf 16 = .ok (.goto (-12), 3) := by decide +kernel
theorem dX10_figuresOf_19 : decode cX10_figuresOf 19 = .ok (.iload_n 1, 1) := by decide +kernel
theorem dX10_figuresOf_20 : decode cX10_figuresOf 20 = .ok (.iconst 1, 1) := by decide +kernel
theorem dX10_figuresOf_21 : decode cX10_figuresOf 21 = .ok (.if_icmp .lt 8, 3) := by decide +kernel
theorem dX10_figuresOf_24 : decode cX10_figuresOf 24 = .ok (.iload_n 2, 1) := by decide +kernel
theorem dX10_figuresOf_25 : decode cX10_figuresOf 25 = .ok (.iconst 5, 1) := by decide +kernel
theorem dX10_figuresOf_26 : decode cX10_figuresOf 26 = .ok (.if_icmp .le 5, 3) := by decide +kernel
theorem dX10_figuresOf_29 : decode cX10_figuresOf 29 = .ok (.iconst (-1), 1) := by decide +kernel
theorem dX10_figuresOf_30 : decode cX10_figuresOf 30 = .ok (.ireturn, 1) := by decide +kernel
theorem dX10_figuresOf_31 : decode cX10_figuresOf 31 = .ok (.iload_n 1, 1) := by decide +kernel
theorem dX10_figuresOf_32 : decode cX10_figuresOf 32 = .ok (.istore_n 3, 1) := by decide +kernel
theorem dX10_figuresOf_33 : decode cX10_figuresOf 33 = .ok (.iload_n 2, 1) := by decide +kernel
theorem dX10_figuresOf_34 : decode cX10_figuresOf 34 = .ok (.iconst 1, 1) := by decide +kernel
theorem dX10_figuresOf_35 : decode cX10_figuresOf 35 = .ok (.isub, 1) := by decide +kernel
theorem dX10_figuresOf_36 : decode cX10_figuresOf 36 = .ok (.istore 4, 2) := by decide +kernel
theorem dX10_figuresOf_38 : decode cX10_figuresOf 38 = .ok (.iload 4, 2) := by decide +kernel
theorem dX10_figuresOf_40 : decode cX10_figuresOf 40 = .ok (.ifCond .lt 45, 3) := by decide +kernel
theorem dX10_figuresOf_43 : decode cX10_figuresOf 43 = .ok (.aload_n 0, 1) := by decide +kernel
theorem dX10_figuresOf_44 : decode cX10_figuresOf 44 = .ok (.getfield 68, 3) := by decide +kernel
theorem dX10_figuresOf_47 : decode cX10_figuresOf 47 = .ok (.iload 4, 2) := by decide +kernel
theorem dX10_figuresOf_49 : decode cX10_figuresOf 49 = .ok (.iload_n 3, 1) := by decide +kernel
theorem dX10_figuresOf_50 : decode cX10_figuresOf 50 = .ok (.bipush 10, 2) := by decide +kernel
theorem dX10_figuresOf_52 : decode cX10_figuresOf 52 = .ok (.irem, 1) := by decide +kernel
theorem dX10_figuresOf_53 : decode cX10_figuresOf 53 = .ok (.iastore, 1) := by decide +kernel
theorem dX10_figuresOf_54 : decode cX10_figuresOf 54 = .ok (.iload_n 3, 1) := by decide +kernel
theorem dX10_figuresOf_55 : decode cX10_figuresOf 55 = .ok (.bipush 10, 2) := by decide +kernel
theorem dX10_figuresOf_57 : decode cX10_figuresOf 57 = .ok (.idiv, 1) := by decide +kernel
theorem dX10_figuresOf_58 : decode cX10_figuresOf 58 = .ok (.istore_n 3, 1) := by decide +kernel
theorem dX10_figuresOf_59 : decode cX10_figuresOf 59 = .ok (.aload_n 0, 1) := by decide +kernel
theorem dX10_figuresOf_60 : decode cX10_figuresOf 60 = .ok (.getfield 68, 3) := by decide +kernel
theorem dX10_figuresOf_63 : decode cX10_figuresOf 63 = .ok (.iload 4, 2) := by decide +kernel
theorem dX10_figuresOf_65 : decode cX10_figuresOf 65 = .ok (.iaload, 1) := by decide +kernel
theorem dX10_figuresOf_66 : decode cX10_figuresOf 66 = .ok (.i2l, 1) := by decide +kernel
theorem dX10_figuresOf_67 : decode cX10_figuresOf 67 = .ok (.lconst 1, 1) := by decide +kernel
theorem dX10_figuresOf_68 : decode cX10_figuresOf 68 = .ok (.ldc2_w 253, 3) := by decide +kernel
theorem dX10_figuresOf_71 : decode cX10_figuresOf 71 = .ok (.invokestatic 105, 3) := by decide +kernel
theorem dX10_figuresOf_74 : decode cX10_figuresOf 74 = .ok (.ifCond .ne 5, 3) := by decide +kernel
theorem dX10_figuresOf_77 : decode cX10_figuresOf 77 = .ok (.iconst (-1), 1) := by decide +kernel
theorem dX10_figuresOf_78 : decode cX10_figuresOf 78 = .ok (.ireturn, 1) := by decide +kernel
theorem dX10_figuresOf_79 : decode cX10_figuresOf 79 = .ok (.iinc 4 (-1), 3) := by decide +kernel
theorem dX10_figuresOf_82 : decode cX10_figuresOf 82 = .ok (.goto (-44), 3) := by decide +kernel
theorem dX10_figuresOf_85 : decode cX10_figuresOf 85 = .ok (.iload_n 2, 1) := by decide +kernel
theorem dX10_figuresOf_86 : decode cX10_figuresOf 86 = .ok (.ireturn, 1) := by decide +kernel
theorem dX10_forged_0 : decode cX10_forged 0 = .ok (.aload_n 0, 1) := by decide +kernel
theorem dX10_forged_1 : decode cX10_forged 1 = .ok (.iload_n 1, 1) := by decide +kernel
theorem dX10_forged_2 : decode cX10_forged 2 = .ok (.invokevirtual 204, 3) := by decide +kernel
theorem dX10_forged_5 : decode cX10_forged 5 = .ok (.ifCond .ne 6, 3) := by decide +kernel
theorem dX10_forged_8 : decode cX10_forged 8 = .ok (.ldc 207, 2) := by decide +kernel
theorem dX10_forged_10 : decode cX10_forged 10 = .ok (.ireturn, 1) := by decide +kernel
theorem dX10_forged_11 : decode cX10_forged 11 = .ok (.aload_n 0, 1) := by decide +kernel
theorem dX10_forged_12 : decode cX10_forged 12 = .ok (.iload_n 2, 1) := by decide +kernel
theorem dX10_forged_13 : decode cX10_forged 13 = .ok (.invokevirtual 285, 3) := by decide +kernel
theorem dX10_forged_16 : decode cX10_forged 16 = .ok (.istore 4, 2) := by decide +kernel
theorem dX10_forged_18 : decode cX10_forged 18 = .ok (.iload 4, 2) := by decide +kernel
theorem dX10_forged_20 : decode cX10_forged 20 = .ok (.ifCond .lt 13, 3) := by decide +kernel
theorem dX10_forged_23 : decode cX10_forged 23 = .ok (.iload_n 3, 1) := by decide +kernel
theorem dX10_forged_24 : decode cX10_forged 24 = .ok (.i2l, 1) := by decide +kernel
theorem dX10_forged_25 : decode cX10_forged 25 = .ok (.lconst 0, 1) := by decide +kernel
theorem dX10_forged_26 : decode cX10_forged 26 = .ok (.lconst 1, 1) := by decide +kernel
theorem dX10_forged_27 : decode cX10_forged 27 = .ok (.invokestatic 105, 3) := by decide +kernel
theorem dX10_forged_30 : decode cX10_forged 30 = .ok (.ifCond .ne 6, 3) := by decide +kernel
theorem dX10_forged_33 : decode cX10_forged 33 = .ok (.ldc 111, 2) := by decide +kernel
theorem dX10_forged_35 : decode cX10_forged 35 = .ok (.ireturn, 1) := by decide +kernel
theorem dX10_forged_36 : decode cX10_forged 36 = .ok (.iload 4, 2) := by decide +kernel
theorem dX10_forged_38 : decode cX10_forged 38 = .ok (.aload_n 0, 1) := by decide +kernel
theorem dX10_forged_39 : decode cX10_forged 39 = .ok (.getfield 16, 3) := by decide +kernel
theorem dX10_forged_42 : decode cX10_forged 42 = .ok (.iload_n 1, 1) := by decide +kernel
theorem dX10_forged_43 : decode cX10_forged 43 = .ok (.iaload, 1) := by decide +kernel
theorem dX10_forged_44 : decode cX10_forged 44 = .ok (.if_icmp .le 8, 3) := by decide +kernel
theorem dX10_forged_47 : decode cX10_forged 47 = .ok (.iload 4, 2) := by decide +kernel
theorem dX10_forged_49 : decode cX10_forged 49 = .ok (.goto 9, 3) := by decide +kernel
theorem dX10_forged_52 : decode cX10_forged 52 = .ok (.aload_n 0, 1) := by decide +kernel
theorem dX10_forged_53 : decode cX10_forged 53 = .ok (.getfield 16, 3) := by decide +kernel
theorem dX10_forged_56 : decode cX10_forged 56 = .ok (.iload_n 1, 1) := by decide +kernel
theorem dX10_forged_57 : decode cX10_forged 57 = .ok (.iaload, 1) := by decide +kernel
theorem dX10_forged_58 : decode cX10_forged 58 = .ok (.istore 5, 2) := by decide +kernel
theorem dX10_forged_60 : decode cX10_forged 60 = .ok (.iconst 0, 1) := by decide +kernel
theorem dX10_forged_61 : decode cX10_forged 61 = .ok (.istore 6, 2) := by decide +kernel
theorem dX10_forged_63 : decode cX10_forged 63 = .ok (.ldc2_w 288, 3) := by decide +kernel
theorem dX10_forged_66 : decode cX10_forged 66 = .ok (.lstore 7, 2) := by decide +kernel
theorem dX10_forged_68 : decode cX10_forged 68 = .ok (.iconst 0, 1) := by decide +kernel
theorem dX10_forged_69 : decode cX10_forged 69 = .ok (.istore 9, 2) := by decide +kernel
theorem dX10_forged_71 : decode cX10_forged 71 = .ok (.iload 9, 2) := by decide +kernel
theorem dX10_forged_73 : decode cX10_forged 73 = .ok (.iload 5, 2) := by decide +kernel
theorem dX10_forged_75 : decode cX10_forged 75 = .ok (.if_icmp .ge 92, 3) := by decide +kernel
theorem dX10_forged_78 : decode cX10_forged 78 = .ok (.iload 9, 2) := by decide +kernel
theorem dX10_forged_80 : decode cX10_forged 80 = .ok (.iload 4, 2) := by decide +kernel
theorem dX10_forged_82 : decode cX10_forged 82 = .ok (.if_icmp .ge 39, 3) := by decide +kernel
theorem dX10_forged_85 : decode cX10_forged 85 = .ok (.iload 9, 2) := by decide +kernel
theorem dX10_forged_87 : decode cX10_forged 87 = .ok (.aload_n 0, 1) := by decide +kernel
theorem dX10_forged_88 : decode cX10_forged 88 = .ok (.getfield 16, 3) := by decide +kernel
theorem dX10_forged_91 : decode cX10_forged 91 = .ok (.iload_n 1, 1) := by decide +kernel
theorem dX10_forged_92 : decode cX10_forged 92 = .ok (.iaload, 1) := by decide +kernel
theorem dX10_forged_93 : decode cX10_forged 93 = .ok (.if_icmp .ge 28, 3) := by decide +kernel
theorem dX10_forged_96 : decode cX10_forged 96 = .ok (.aload_n 0, 1) := by decide +kernel
theorem dX10_forged_97 : decode cX10_forged 97 = .ok (.getfield 68, 3) := by decide +kernel
theorem dX10_forged_100 : decode cX10_forged 100 = .ok (.iload 9, 2) := by decide +kernel
theorem dX10_forged_102 : decode cX10_forged 102 = .ok (.iaload, 1) := by decide +kernel
theorem dX10_forged_103 : decode cX10_forged 103 = .ok (.aload_n 0, 1) := by decide +kernel
theorem dX10_forged_104 : decode cX10_forged 104 = .ok (.getfield 19, 3) := by decide +kernel
theorem dX10_forged_107 : decode cX10_forged 107 = .ok (.iconst 5, 1) := by decide +kernel
theorem dX10_forged_108 : decode cX10_forged 108 = .ok (.iload_n 1, 1) := by decide +kernel
theorem dX10_forged_109 : decode cX10_forged 109 = .ok (.imul, 1) := by decide +kernel
theorem dX10_forged_110 : decode cX10_forged 110 = .ok (.iload 9, 2) := by decide +kernel
theorem dX10_forged_112 : decode cX10_forged 112 = .ok (.iadd, 1) := by decide +kernel
theorem dX10_forged_113 : decode cX10_forged 113 = .ok (.iaload, 1) := by decide +kernel
theorem dX10_forged_114 : decode cX10_forged 114 = .ok (.if_icmp .ne 7, 3) := by decide +kernel
theorem dX10_forged_117 : decode cX10_forged 117 = .ok (.iconst 1, 1) := by decide +kernel
theorem dX10_forged_118 : decode cX10_forged 118 = .ok (.goto 4, 3) := by decide +kernel
theorem dX10_forged_121 : decode cX10_forged 121 = .ok (.iconst 0, 1) := by decide +kernel
theorem dX10_forged_122 : decode cX10_forged 122 = .ok (.istore 10, 2) := by decide +kernel
theorem dX10_forged_124 : decode cX10_forged 124 = .ok (.iload 6, 2) := by decide +kernel
theorem dX10_forged_126 : decode cX10_forged 126 = .ok (.iload 10, 2) := by decide +kernel
theorem dX10_forged_128 : decode cX10_forged 128 = .ok (.ifCond .eq 7, 3) := by decide +kernel
theorem dX10_forged_131 : decode cX10_forged 131 = .ok (.iconst 0, 1) := by decide +kernel
theorem dX10_forged_132 : decode cX10_forged 132 = .ok (.goto 4, 3) := by decide +kernel
theorem dX10_forged_135 : decode cX10_forged 135 = .ok (.iconst 1, 1) := by decide +kernel
theorem dX10_forged_136 : decode cX10_forged 136 = .ok (.iadd, 1) := by decide +kernel
theorem dX10_forged_137 : decode cX10_forged 137 = .ok (.istore 6, 2) := by decide +kernel
theorem dX10_forged_139 : decode cX10_forged 139 = .ok (.lload 7, 2) := by decide +kernel
theorem dX10_forged_141 : decode cX10_forged 141 = .ok (.iload 10, 2) := by decide +kernel
theorem dX10_forged_143 : decode cX10_forged 143 = .ok (.ifCond .eq 8, 3) := by decide +kernel
theorem dX10_forged_146 : decode cX10_forged 146 = .ok (.bipush 90, 2) := by decide +kernel
theorem dX10_forged_148 : decode cX10_forged 148 = .ok (.goto 5, 3) := by decide +kernel
theorem dX10_forged_151 : decode cX10_forged 151 = .ok (.bipush 10, 2) := by decide +kernel
theorem dX10_forged_153 : decode cX10_forged 153 = .ok (.i2l, 1) := by decide +kernel
theorem dX10_forged_154 : decode cX10_forged 154 = .ok (.lmul, 1) := by decide +kernel
theorem dX10_forged_155 : decode cX10_forged 155 = .ok (.ldc2_w 290, 3) := by decide +kernel
theorem dX10_forged_158 : decode cX10_forged 158 = .ok (.ldiv, 1) := by decide +kernel
theorem dX10_forged_159 : decode cX10_forged 159 = .ok (.lstore 7, 2) := by decide +kernel
theorem dX10_forged_161 : decode cX10_forged 161 = .ok (.iinc 9 1, 3) := by decide +kernel
theorem dX10_forged_164 : decode cX10_forged 164 = .ok (.goto (-93), 3) := by decide +kernel
theorem dX10_forged_167 : decode cX10_forged 167 = .ok (.iload_n 3, 1) := by decide +kernel
theorem dX10_forged_168 : decode cX10_forged 168 = .ok (.ifCond .ne 8, 3) := by decide +kernel
theorem dX10_forged_171 : decode cX10_forged 171 = .ok (.iload 6, 2) := by decide +kernel
theorem dX10_forged_173 : decode cX10_forged 173 = .ok (.goto 6, 3) := by decide +kernel
theorem dX10_forged_176 : decode cX10_forged 176 = .ok (.lload 7, 2) := by decide +kernel
theorem dX10_forged_178 : decode cX10_forged 178 = .ok (.l2i, 1) := by decide +kernel
theorem dX10_forged_179 : decode cX10_forged 179 = .ok (.ireturn, 1) := by decide +kernel
theorem dX10_damp_0 : decode cX10_damp 0 = .ok (.aload_n 0, 1) := by decide +kernel
theorem dX10_damp_1 : decode cX10_damp 1 = .ok (.iload_n 1, 1) := by decide +kernel
theorem dX10_damp_2 : decode cX10_damp 2 = .ok (.invokevirtual 275, 3) := by decide +kernel
theorem dX10_damp_5 : decode cX10_damp 5 = .ok (.ifCond .ne 6, 3) := by decide +kernel
theorem dX10_damp_8 : decode cX10_damp 8 = .ok (.ldc 207, 2) := by decide +kernel
theorem dX10_damp_10 : decode cX10_damp 10 = .ok (.ireturn, 1) := by decide +kernel
theorem dX10_damp_11 : decode cX10_damp 11 = .ok (.ldc2_w 288, 3) := by decide +kernel
theorem dX10_damp_14 : decode cX10_damp 14 = .ok (.lstore_n 2, 1) := by decide +kernel
theorem dX10_damp_15 : decode cX10_damp 15 = .ok (.iconst 0, 1) := by decide +kernel
theorem dX10_damp_16 : decode cX10_damp 16 = .ok (.istore 4, 2) := by decide +kernel
theorem dX10_damp_18 : decode cX10_damp 18 = .ok (.iload 4, 2) := by decide +kernel
theorem dX10_damp_20 : decode cX10_damp 20 = .ok (.iconst 5, 1) := by decide +kernel
theorem dX10_damp_21 : decode cX10_damp 21 = .ok (.aload_n 0, 1) := by decide +kernel
theorem dX10_damp_22 : decode cX10_damp 22 = .ok (.getfield 102, 3) := by decide +kernel
theorem dX10_damp_25 : decode cX10_damp 25 = .ok (.imul, 1) := by decide +kernel
theorem dX10_damp_26 : decode cX10_damp 26 = .ok (.if_icmp .ge 78, 3) := by decide +kernel
theorem dX10_damp_29 : decode cX10_damp 29 = .ok (.iload_n 1, 1) := by decide +kernel
theorem dX10_damp_30 : decode cX10_damp 30 = .ok (.iload 4, 2) := by decide +kernel
theorem dX10_damp_32 : decode cX10_damp 32 = .ok (.iconst 5, 1) := by decide +kernel
theorem dX10_damp_33 : decode cX10_damp 33 = .ok (.idiv, 1) := by decide +kernel
theorem dX10_damp_34 : decode cX10_damp 34 = .ok (.invokestatic 194, 3) := by decide +kernel
theorem dX10_damp_37 : decode cX10_damp 37 = .ok (.ifCond .eq 34, 3) := by decide +kernel
theorem dX10_damp_40 : decode cX10_damp 40 = .ok (.iload 4, 2) := by decide +kernel
theorem dX10_damp_42 : decode cX10_damp 42 = .ok (.iconst 5, 1) := by decide +kernel
theorem dX10_damp_43 : decode cX10_damp 43 = .ok (.irem, 1) := by decide +kernel
theorem dX10_damp_44 : decode cX10_damp 44 = .ok (.aload_n 0, 1) := by decide +kernel
theorem dX10_damp_45 : decode cX10_damp 45 = .ok (.getfield 16, 3) := by decide +kernel
theorem dX10_damp_48 : decode cX10_damp 48 = .ok (.iload 4, 2) := by decide +kernel
theorem dX10_damp_50 : decode cX10_damp 50 = .ok (.iconst 5, 1) := by decide +kernel
theorem dX10_damp_51 : decode cX10_damp 51 = .ok (.idiv, 1) := by decide +kernel
theorem dX10_damp_52 : decode cX10_damp 52 = .ok (.iaload, 1) := by decide +kernel
theorem dX10_damp_53 : decode cX10_damp 53 = .ok (.if_icmp .ge 18, 3) := by decide +kernel
theorem dX10_damp_56 : decode cX10_damp 56 = .ok (.aload_n 0, 1) := by decide +kernel
theorem dX10_damp_57 : decode cX10_damp 57 = .ok (.getfield 19, 3) := by decide +kernel
theorem dX10_damp_60 : decode cX10_damp 60 = .ok (.iload 4, 2) := by decide +kernel
theorem dX10_damp_62 : decode cX10_damp 62 = .ok (.iaload, 1) := by decide +kernel
theorem dX10_damp_63 : decode cX10_damp 63 = .ok (.iconst 3, 1) := by decide +kernel
theorem dX10_damp_64 : decode cX10_damp 64 = .ok (.if_icmp .ne 7, 3) := by decide +kernel
theorem dX10_damp_67 : decode cX10_damp 67 = .ok (.iconst 1, 1) := by decide +kernel
theorem dX10_damp_68 : decode cX10_damp 68 = .ok (.goto 4, 3) := by decide +kernel
theorem dX10_damp_71 : decode cX10_damp 71 = .ok (.iconst 0, 1) := by decide +kernel
theorem dX10_damp_72 : decode cX10_damp 72 = .ok (.istore 5, 2) := by decide +kernel
theorem dX10_damp_74 : decode cX10_damp 74 = .ok (.iload 5, 2) := by decide +kernel
theorem dX10_damp_76 : decode cX10_damp 76 = .ok (.ifCond .eq 20, 3) := by decide +kernel
theorem dX10_damp_79 : decode cX10_damp 79 = .ok (.lload_n 2, 1) := by decide +kernel
theorem dX10_damp_80 : decode cX10_damp 80 = .ok (.bipush 100, 2) := by decide +kernel
theorem dX10_damp_82 : decode cX10_damp 82 = .ok (.aload_n 0, 1) := by decide +kernel
theorem dX10_damp_83 : decode cX10_damp 83 = .ok (.getfield 26, 3) := by decide +kernel
theorem dX10_damp_86 : decode cX10_damp 86 = .ok (.isub, 1) := by decide +kernel
theorem dX10_damp_87 : decode cX10_damp 87 = .ok (.i2l, 1) := by decide +kernel
theorem dX10_damp_88 : decode cX10_damp 88 = .ok (.lmul, 1) := by decide +kernel
theorem dX10_damp_89 : decode cX10_damp 89 = .ok (.ldc2_w 290, 3) := by decide +kernel
theorem dX10_damp_92 : decode cX10_damp 92 = .ok (.ldiv, 1) := by decide +kernel
theorem dX10_damp_93 : decode cX10_damp 93 = .ok (.goto 4, 3) := by decide +kernel
theorem dX10_damp_96 : decode cX10_damp 96 = .ok (.lload_n 2, 1) := by decide +kernel
theorem dX10_damp_97 : decode cX10_damp 97 = .ok (.lstore_n 2, 1) := by decide +kernel
theorem dX10_damp_98 : decode cX10_damp 98 = .ok (.iinc 4 1, 3) := by decide +kernel
theorem dX10_damp_101 : decode cX10_damp 101 = .ok (.goto (-83), 3) := by decide +kernel
theorem dX10_damp_104 : decode cX10_damp 104 = .ok (.lload_n 2, 1) := by decide +kernel
theorem dX10_damp_105 : decode cX10_damp 105 = .ok (.l2i, 1) := by decide +kernel
theorem dX10_damp_106 : decode cX10_damp 106 = .ok (.ireturn, 1) := by decide +kernel
theorem dX10_nearest_0 : decode cX10_nearest 0 = .ok (.iconst (-1), 1) := by decide +kernel
theorem dX10_nearest_1 : decode cX10_nearest 1 = .ok (.istore_n 2, 1) := by decide +kernel
theorem dX10_nearest_2 : decode cX10_nearest 2 = .ok (.iconst 1, 1) := by decide +kernel
theorem dX10_nearest_3 : decode cX10_nearest 3 = .ok (.istore_n 3, 1) := by decide +kernel
theorem dX10_nearest_4 : decode cX10_nearest 4 = .ok (.iload_n 3, 1) := by decide +kernel
theorem dX10_nearest_5 : decode cX10_nearest 5 = .ok (.aload_n 0, 1) := by decide +kernel
theorem dX10_nearest_6 : decode cX10_nearest 6 = .ok (.getfield 102, 3) := by decide +kernel
theorem dX10_nearest_9 : decode cX10_nearest 9 = .ok (.if_icmp .ge 88, 3) := by decide +kernel
theorem dX10_nearest_12 : decode cX10_nearest 12 = .ok (.aload_n 0, 1) := by decide +kernel
theorem dX10_nearest_13 : decode cX10_nearest 13 = .ok (.getfield 29, 3) := by decide +kernel
theorem dX10_nearest_16 : decode cX10_nearest 16 = .ok (.iconst 3, 1) := by decide +kernel
theorem dX10_nearest_17 : decode cX10_nearest 17 = .ok (.iload_n 3, 1) := by decide +kernel
theorem dX10_nearest_18 : decode cX10_nearest 18 = .ok (.iadd, 1) := by decide +kernel
theorem dX10_nearest_19 : decode cX10_nearest 19 = .ok (.iaload, 1) := by decide +kernel
theorem dX10_nearest_20 : decode cX10_nearest 20 = .ok (.ifCond .le 20, 3) := by decide +kernel
theorem dX10_nearest_23 : decode cX10_nearest 23 = .ok (.aload_n 0, 1) := by decide +kernel
theorem dX10_nearest_24 : decode cX10_nearest 24 = .ok (.getfield 71, 3) := by decide +kernel
theorem dX10_nearest_27 : decode cX10_nearest 27 = .ok (.iload_n 1, 1) := by decide +kernel
theorem dX10_nearest_28 : decode cX10_nearest 28 = .ok (.iaload, 1) := by decide +kernel
theorem dX10_nearest_29 : decode cX10_nearest 29 = .ok (.iload_n 3, 1) := by decide +kernel
theorem dX10_nearest_30 : decode cX10_nearest 30 = .ok (.invokestatic 194, 3) := by decide +kernel
theorem dX10_nearest_33 : decode cX10_nearest 33 = .ok (.ifCond .ne 7, 3) := by decide +kernel
theorem dX10_nearest_36 : decode cX10_nearest 36 = .ok (.iconst 1, 1) := by decide +kernel
theorem dX10_nearest_37 : decode cX10_nearest 37 = .ok (.goto 4, 3) := by decide +kernel
theorem dX10_nearest_40 : decode cX10_nearest 40 = .ok (.iconst 0, 1) := by decide +kernel
theorem dX10_nearest_41 : decode cX10_nearest 41 = .ok (.istore 4, 2) := by decide +kernel
theorem dX10_nearest_43 : decode cX10_nearest 43 = .ok (.iload 4, 2) := by decide +kernel
theorem dX10_nearest_45 : decode cX10_nearest 45 = .ok (.ifCond .eq 44, 3) := by decide +kernel
theorem dX10_nearest_48 : decode cX10_nearest 48 = .ok (.iload_n 2, 1) := by decide +kernel
theorem dX10_nearest_49 : decode cX10_nearest 49 = .ok (.ifCond .lt 36, 3) := by decide +kernel
theorem dX10_nearest_52 : decode cX10_nearest 52 = .ok (.aload_n 0, 1) := by decide +kernel
theorem dX10_nearest_53 : decode cX10_nearest 53 = .ok (.getfield 7, 3) := by decide +kernel
theorem dX10_nearest_56 : decode cX10_nearest 56 = .ok (.iload_n 1, 1) := by decide +kernel
theorem dX10_nearest_57 : decode cX10_nearest 57 = .ok (.iaload, 1) := by decide +kernel
theorem dX10_nearest_58 : decode cX10_nearest 58 = .ok (.aload_n 0, 1) := by decide +kernel
theorem dX10_nearest_59 : decode cX10_nearest 59 = .ok (.getfield 7, 3) := by decide +kernel
theorem dX10_nearest_62 : decode cX10_nearest 62 = .ok (.iload_n 3, 1) := by decide +kernel
theorem dX10_nearest_63 : decode cX10_nearest 63 = .ok (.iaload, 1) := by decide +kernel
theorem dX10_nearest_64 : decode cX10_nearest 64 = .ok (.invokestatic 217, 3) := by decide +kernel
theorem dX10_nearest_67 : decode cX10_nearest 67 = .ok (.aload_n 0, 1) := by decide +kernel
theorem dX10_nearest_68 : decode cX10_nearest 68 = .ok (.getfield 7, 3) := by decide +kernel
theorem dX10_nearest_71 : decode cX10_nearest 71 = .ok (.iload_n 1, 1) := by decide +kernel
theorem dX10_nearest_72 : decode cX10_nearest 72 = .ok (.iaload, 1) := by decide +kernel
theorem dX10_nearest_73 : decode cX10_nearest 73 = .ok (.aload_n 0, 1) := by decide +kernel
theorem dX10_nearest_74 : decode cX10_nearest 74 = .ok (.getfield 7, 3) := by decide +kernel
theorem dX10_nearest_77 : decode cX10_nearest 77 = .ok (.iload_n 2, 1) := by decide +kernel
theorem dX10_nearest_78 : decode cX10_nearest 78 = .ok (.iaload, 1) := by decide +kernel
theorem dX10_nearest_79 : decode cX10_nearest 79 = .ok (.invokestatic 217, 3) := by decide +kernel
theorem dX10_nearest_82 : decode cX10_nearest 82 = .ok (.if_icmp .ge 7, 3) := by decide +kernel
theorem dX10_nearest_85 : decode cX10_nearest 85 = .ok (.iload_n 3, 1) := by decide +kernel
theorem dX10_nearest_86 : decode cX10_nearest 86 = .ok (.goto 4, 3) := by decide +kernel
theorem dX10_nearest_89 : decode cX10_nearest 89 = .ok (.iload_n 2, 1) := by decide +kernel
theorem dX10_nearest_90 : decode cX10_nearest 90 = .ok (.istore_n 2, 1) := by decide +kernel
theorem dX10_nearest_91 : decode cX10_nearest 91 = .ok (.iinc 3 2, 3) := by decide +kernel
theorem dX10_nearest_94 : decode cX10_nearest 94 = .ok (.goto (-90), 3) := by decide +kernel
theorem dX10_nearest_97 : decode cX10_nearest 97 = .ok (.iload_n 2, 1) := by decide +kernel
theorem dX10_nearest_98 : decode cX10_nearest 98 = .ok (.ireturn, 1) := by decide +kernel
theorem dX10_isKeptOf_0 : decode cX10_isKeptOf 0 = .ok (.aload_n 0, 1) := by decide +kernel
theorem dX10_isKeptOf_1 : decode cX10_isKeptOf 1 = .ok (.getfield 7, 3) := by decide +kernel
theorem dX10_isKeptOf_4 : decode cX10_isKeptOf 4 = .ok (.iload_n 1, 1) := by decide +kernel
theorem dX10_isKeptOf_5 : decode cX10_isKeptOf 5 = .ok (.iaload, 1) := by decide +kernel
theorem dX10_isKeptOf_6 : decode cX10_isKeptOf 6 = .ok (.aload_n 0, 1) := by decide +kernel
theorem dX10_isKeptOf_7 : decode cX10_isKeptOf 7 = .ok (.getfield 7, 3) := by decide +kernel
theorem dX10_isKeptOf_10 : decode cX10_isKeptOf 10 = .ok (.iload_n 2, 1) := by decide +kernel
theorem dX10_isKeptOf_11 : decode cX10_isKeptOf 11 = .ok (.iaload, 1) := by decide +kernel
theorem dX10_isKeptOf_12 : decode cX10_isKeptOf 12 = .ok (.invokestatic 217, 3) := by decide +kernel
theorem dX10_isKeptOf_15 : decode cX10_isKeptOf 15 = .ok (.istore 4, 2) := by decide +kernel
theorem dX10_isKeptOf_17 : decode cX10_isKeptOf 17 = .ok (.aload_n 0, 1) := by decide +kernel
theorem dX10_isKeptOf_18 : decode cX10_isKeptOf 18 = .ok (.getfield 7, 3) := by decide +kernel
theorem dX10_isKeptOf_21 : decode cX10_isKeptOf 21 = .ok (.iload_n 1, 1) := by decide +kernel
theorem dX10_isKeptOf_22 : decode cX10_isKeptOf 22 = .ok (.iaload, 1) := by decide +kernel
theorem dX10_isKeptOf_23 : decode cX10_isKeptOf 23 = .ok (.aload_n 0, 1) := by decide +kernel
theorem dX10_isKeptOf_24 : decode cX10_isKeptOf 24 = .ok (.getfield 7, 3) := by decide +kernel
theorem dX10_isKeptOf_27 : decode cX10_isKeptOf 27 = .ok (.iload_n 3, 1) := by decide +kernel
theorem dX10_isKeptOf_28 : decode cX10_isKeptOf 28 = .ok (.iaload, 1) := by decide +kernel
theorem dX10_isKeptOf_29 : decode cX10_isKeptOf 29 = .ok (.invokestatic 217, 3) := by decide +kernel
theorem dX10_isKeptOf_32 : decode cX10_isKeptOf 32 = .ok (.istore 5, 2) := by decide +kernel
theorem dX10_isKeptOf_34 : decode cX10_isKeptOf 34 = .ok (.iload 4, 2) := by decide +kernel
theorem dX10_isKeptOf_36 : decode cX10_isKeptOf 36 = .ok (.iload 5, 2) := by decide +kernel
theorem dX10_isKeptOf_38 : decode cX10_isKeptOf 38 = .ok (.if_icmp .eq 18, 3) := by decide +kernel
theorem dX10_isKeptOf_41 : decode cX10_isKeptOf 41 = .ok (.iload 4, 2) := by decide +kernel
theorem dX10_isKeptOf_43 : decode cX10_isKeptOf 43 = .ok (.iload 5, 2) := by decide +kernel
theorem dX10_isKeptOf_45 : decode cX10_isKeptOf 45 = .ok (.if_icmp .ge 7, 3) := by decide +kernel
theorem dX10_isKeptOf_48 : decode cX10_isKeptOf 48 = .ok (.iconst 1, 1) := by decide +kernel
theorem dX10_isKeptOf_49 : decode cX10_isKeptOf 49 = .ok (.goto 17, 3) := by decide +kernel
theorem dX10_isKeptOf_52 : decode cX10_isKeptOf 52 = .ok (.iconst 0, 1) := by decide +kernel
theorem dX10_isKeptOf_53 : decode cX10_isKeptOf 53 = .ok (.goto 13, 3) := by decide +kernel
theorem dX10_isKeptOf_56 : decode cX10_isKeptOf 56 = .ok (.iload_n 2, 1) := by decide +kernel
theorem dX10_isKeptOf_57 : decode cX10_isKeptOf 57 = .ok (.iload_n 3, 1) := by decide +kernel
theorem dX10_isKeptOf_58 : decode cX10_isKeptOf 58 = .ok (.if_icmp .ge 7, 3) := by decide +kernel
theorem dX10_isKeptOf_61 : decode cX10_isKeptOf 61 = .ok (.iconst 1, 1) := by decide +kernel
theorem dX10_isKeptOf_62 : decode cX10_isKeptOf 62 = .ok (.goto 4, 3) := by decide +kernel
theorem dX10_isKeptOf_65 : decode cX10_isKeptOf 65 = .ok (.iconst 0, 1) := by decide +kernel
theorem dX10_isKeptOf_66 : decode cX10_isKeptOf 66 = .ok (.ireturn, 1) := by decide +kernel
theorem dX10_ask_0 : decode cX10_ask 0 = .ok (.aload_n 0, 1) := by decide +kernel
theorem dX10_ask_1 : decode cX10_ask 1 = .ok (.getfield 74, 3) := by decide +kernel
theorem dX10_ask_4 : decode cX10_ask 4 = .ok (.iload_n 2, 1) := by decide +kernel
theorem dX10_ask_5 : decode cX10_ask 5 = .ok (.iaload, 1) := by decide +kernel
theorem dX10_ask_6 : decode cX10_ask 6 = .ok (.istore_n 3, 1) := by decide +kernel
theorem dX10_ask_7 : decode cX10_ask 7 = .ok (.iload_n 3, 1) := by decide +kernel
theorem dX10_ask_8 : decode cX10_ask 8 = .ok (.ifCond .lt 26, 3) := by decide +kernel
theorem dX10_ask_11 : decode cX10_ask 11 = .ok (.aload_n 0, 1) := by decide +kernel
theorem dX10_ask_12 : decode cX10_ask 12 = .ok (.iload_n 2, 1) := by decide +kernel
theorem dX10_ask_13 : decode cX10_ask 13 = .ok (.iload_n 3, 1) := by decide +kernel
theorem dX10_ask_14 : decode cX10_ask 14 = .ok (.iload_n 1, 1) := by decide +kernel
theorem dX10_ask_15 : decode cX10_ask 15 = .ok (.invokevirtual 292, 3) := by decide +kernel
theorem dX10_ask_18 : decode cX10_ask 18 = .ok (.ifCond .eq 16, 3) := by decide +kernel
theorem dX10_ask_21 : decode cX10_ask 21 = .ok (.aload_n 0, 1) := by decide +kernel
theorem dX10_ask_22 : decode cX10_ask 22 = .ok (.getfield 71, 3) := by decide +kernel
theorem dX10_ask_25 : decode cX10_ask 25 = .ok (.iload_n 1, 1) := by decide +kernel
theorem dX10_ask_26 : decode cX10_ask 26 = .ok (.dup2, 1) := by decide +kernel
theorem dX10_ask_27 : decode cX10_ask 27 = .ok (.iaload, 1) := by decide +kernel
theorem dX10_ask_28 : decode cX10_ask 28 = .ok (.iconst 1, 1) := by decide +kernel
theorem dX10_ask_29 : decode cX10_ask 29 = .ok (.iload_n 2, 1) := by decide +kernel
theorem dX10_ask_30 : decode cX10_ask 30 = .ok (.ishl, 1) := by decide +kernel
theorem dX10_ask_31 : decode cX10_ask 31 = .ok (.ior, 1) := by decide +kernel
theorem dX10_ask_32 : decode cX10_ask 32 = .ok (.iastore, 1) := by decide +kernel
theorem dX10_ask_33 : decode cX10_ask 33 = .ok (.return_, 1) := by decide +kernel
theorem dX10_ask_34 : decode cX10_ask 34 = .ok (.iload_n 3, 1) := by decide +kernel
theorem dX10_ask_35 : decode cX10_ask 35 = .ok (.ifCond .lt 22, 3) := by decide +kernel
theorem dX10_ask_38 : decode cX10_ask 38 = .ok (.aload_n 0, 1) := by decide +kernel
theorem dX10_ask_39 : decode cX10_ask 39 = .ok (.getfield 74, 3) := by decide +kernel
theorem dX10_ask_42 : decode cX10_ask 42 = .ok (.iload_n 3, 1) := by decide +kernel
theorem dX10_ask_43 : decode cX10_ask 43 = .ok (.iconst (-1), 1) := by decide +kernel
theorem dX10_ask_44 : decode cX10_ask 44 = .ok (.iastore, 1) := by decide +kernel
theorem dX10_ask_45 : decode cX10_ask 45 = .ok (.aload_n 0, 1) := by decide +kernel
theorem dX10_ask_46 : decode cX10_ask 46 = .ok (.getfield 71, 3) := by decide +kernel
theorem dX10_ask_49 : decode cX10_ask 49 = .ok (.iload_n 3, 1) := by decide +kernel
theorem dX10_ask_50 : decode cX10_ask 50 = .ok (.dup2, 1) := by decide +kernel
theorem dX10_ask_51 : decode cX10_ask 51 = .ok (.iaload, 1) := by decide +kernel
theorem dX10_ask_52 : decode cX10_ask 52 = .ok (.iconst 1, 1) := by decide +kernel
theorem dX10_ask_53 : decode cX10_ask 53 = .ok (.iload_n 2, 1) := by decide +kernel
theorem dX10_ask_54 : decode cX10_ask 54 = .ok (.ishl, 1) := by decide +kernel
theorem dX10_ask_55 : decode cX10_ask 55 = .ok (.ior, 1) := by decide +kernel
theorem dX10_ask_56 : decode cX10_ask 56 = .ok (.iastore, 1) := by decide +kernel
theorem dX10_ask_57 : decode cX10_ask 57 = .ok (.aload_n 0, 1) := by decide +kernel
theorem dX10_ask_58 : decode cX10_ask 58 = .ok (.getfield 74, 3) := by decide +kernel
theorem dX10_ask_61 : decode cX10_ask 61 = .ok (.iload_n 2, 1) := by decide +kernel
theorem dX10_ask_62 : decode cX10_ask 62 = .ok (.iload_n 1, 1) := by decide +kernel
theorem dX10_ask_63 : decode cX10_ask 63 = .ok (.iastore, 1) := by decide +kernel
theorem dX10_ask_64 : decode cX10_ask 64 = .ok (.aload_n 0, 1) := by decide +kernel
theorem dX10_ask_65 : decode cX10_ask 65 = .ok (.getfield 74, 3) := by decide +kernel
theorem dX10_ask_68 : decode cX10_ask 68 = .ok (.iload_n 1, 1) := by decide +kernel
theorem dX10_ask_69 : decode cX10_ask 69 = .ok (.iload_n 2, 1) := by decide +kernel
theorem dX10_ask_70 : decode cX10_ask 70 = .ok (.iastore, 1) := by decide +kernel
theorem dX10_ask_71 : decode cX10_ask 71 = .ok (.return_, 1) := by decide +kernel
theorem dX10_partner_0 : decode cX10_partner 0 = .ok (.aload_n 0, 1) := by decide +kernel
theorem dX10_partner_1 : decode cX10_partner 1 = .ok (.iload_n 1, 1) := by decide +kernel
theorem dX10_partner_2 : decode cX10_partner 2 = .ok (.invokevirtual 204, 3) := by decide +kernel
theorem dX10_partner_5 : decode cX10_partner 5 = .ok (.ifCond .ne 6, 3) := by decide +kernel
theorem dX10_partner_8 : decode cX10_partner 8 = .ok (.ldc 207, 2) := by decide +kernel
theorem dX10_partner_10 : decode cX10_partner 10 = .ok (.ireturn, 1) := by decide +kernel
theorem dX10_partner_11 : decode cX10_partner 11 = .ok (.iconst 0, 1) := by decide +kernel
theorem dX10_partner_12 : decode cX10_partner 12 = .ok (.istore_n 2, 1) := by decide +kernel
theorem dX10_partner_13 : decode cX10_partner 13 = .ok (.iload_n 2, 1) := by decide +kernel
theorem dX10_partner_14 : decode cX10_partner 14 = .ok (.bipush 8, 2) := by decide +kernel
theorem dX10_partner_16 : decode cX10_partner 16 = .ok (.if_icmp .ge 23, 3) := by decide +kernel
theorem dX10_partner_19 : decode cX10_partner 19 = .ok (.aload_n 0, 1) := by decide +kernel
theorem dX10_partner_20 : decode cX10_partner 20 = .ok (.getfield 71, 3) := by decide +kernel
theorem dX10_partner_23 : decode cX10_partner 23 = .ok (.iload_n 2, 1) := by decide +kernel
theorem dX10_partner_24 : decode cX10_partner 24 = .ok (.iconst 0, 1) := by decide +kernel
theorem dX10_partner_25 : decode cX10_partner 25 = .ok (.iastore, 1) := by decide +kernel
theorem dX10_partner_26 : decode cX10_partner 26 = .ok (.aload_n 0, 1) := by decide +kernel
theorem dX10_partner_27 : decode cX10_partner 27 = .ok (.getfield 74, 3) := by decide +kernel
theorem dX10_partner_30 : decode cX10_partner 30 = .ok (.iload_n 2, 1) := by decide +kernel
theorem dX10_partner_31 : decode cX10_partner 31 = .ok (.iconst (-1), 1) := by decide +kernel
theorem dX10_partner_32 : decode cX10_partner 32 = .ok (.iastore, 1) := by decide +kernel
theorem dX10_partner_33 : decode cX10_partner 33 = .ok (.iinc 2 1, 3) := by decide +kernel
theorem dX10_partner_36 : decode cX10_partner 36 = .ok (.goto (-23), 3) := by decide +kernel
theorem dX10_partner_39 : decode cX10_partner 39 = .ok (.iconst 1, 1) := by decide +kernel
theorem dX10_partner_40 : decode cX10_partner 40 = .ok (.istore_n 2, 1) := by decide +kernel
theorem dX10_partner_41 : decode cX10_partner 41 = .ok (.iload_n 2, 1) := by decide +kernel
theorem dX10_partner_42 : decode cX10_partner 42 = .ok (.ifCond .eq 69, 3) := by decide +kernel
theorem dX10_partner_45 : decode cX10_partner 45 = .ok (.iconst 0, 1) := by decide +kernel
theorem dX10_partner_46 : decode cX10_partner 46 = .ok (.istore_n 2, 1) := by decide +kernel
theorem dX10_partner_47 : decode cX10_partner 47 = .ok (.iconst 0, 1) := by decide +kernel
theorem dX10_partner_48 : decode cX10_partner 48 = .ok (.istore_n 3, 1) := by decide +kernel
theorem dX10_partner_49 : decode cX10_partner 49 = .ok (.iload_n 3, 1) := by decide +kernel
theorem dX10_partner_50 : decode cX10_partner 50 = .ok (.aload_n 0, 1) := by decide +kernel
theorem dX10_partner_51 : decode cX10_partner 51 = .ok (.getfield 102, 3) := by decide +kernel
theorem dX10_partner_54 : decode cX10_partner 54 = .ok (.if_icmp .ge 54, 3) := by decide +kernel
theorem dX10_partner_57 : decode cX10_partner 57 = .ok (.aload_n 0, 1) := by decide +kernel
theorem dX10_partner_58 : decode cX10_partner 58 = .ok (.getfield 29, 3) := by decide +kernel
theorem dX10_partner_61 : decode cX10_partner 61 = .ok (.iconst 3, 1) := by decide +kernel
theorem dX10_partner_62 : decode cX10_partner 62 = .ok (.iload_n 3, 1) := by decide +kernel
theorem dX10_partner_63 : decode cX10_partner 63 = .ok (.iadd, 1) := by decide +kernel
theorem dX10_partner_64 : decode cX10_partner 64 = .ok (.iaload, 1) := by decide +kernel
theorem dX10_partner_65 : decode cX10_partner 65 = .ok (.ifCond .le 20, 3) := by decide +kernel
theorem dX10_partner_68 : decode cX10_partner 68 = .ok (.aload_n 0, 1) := by decide +kernel
theorem dX10_partner_69 : decode cX10_partner 69 = .ok (.getfield 74, 3) := by decide +kernel
theorem dX10_partner_72 : decode cX10_partner 72 = .ok (.iload_n 3, 1) := by decide +kernel
theorem dX10_partner_73 : decode cX10_partner 73 = .ok (.iaload, 1) := by decide +kernel
theorem dX10_partner_74 : decode cX10_partner 74 = .ok (.ifCond .ge 11, 3) := by decide +kernel
theorem dX10_partner_77 : decode cX10_partner 77 = .ok (.aload_n 0, 1) := by decide +kernel
theorem dX10_partner_78 : decode cX10_partner 78 = .ok (.iload_n 3, 1) := by decide +kernel
theorem dX10_partner_79 : decode cX10_partner 79 = .ok (.invokevirtual 295, 3) := by decide +kernel
theorem dX10_partner_82 : decode cX10_partner 82 = .ok (.goto 4, 3) := by decide +kernel
theorem dX10_partner_85 : decode cX10_partner 85 = .ok (.iconst (-1), 1) := by decide +kernel
theorem dX10_partner_86 : decode cX10_partner 86 = .ok (.istore 4, 2) := by decide +kernel
theorem dX10_partner_88 : decode cX10_partner 88 = .ok (.iload 4, 2) := by decide +kernel
theorem dX10_partner_90 : decode cX10_partner 90 = .ok (.ifCond .lt 12, 3) := by decide +kernel
theorem dX10_partner_93 : decode cX10_partner 93 = .ok (.aload_n 0, 1) := by decide +kernel
theorem dX10_partner_94 : decode cX10_partner 94 = .ok (.iload_n 3, 1) := by decide +kernel
theorem dX10_partner_95 : decode cX10_partner 95 = .ok (.iload 4, 2) := by decide +kernel
theorem dX10_partner_97 : decode cX10_partner 97 = .ok (.invokevirtual 298, 3) := by decide +kernel
theorem dX10_partner_100 : decode cX10_partner 100 = .ok (.iconst 1, 1) := by decide +kernel
theorem dX10_partner_101 : decode cX10_partner 101 = .ok (.istore_n 2, 1) := by decide +kernel
theorem dX10_partner_102 : decode cX10_partner 102 = .ok (.iinc 3 2, 3) := by decide +kernel
theorem dX10_partner_105 : decode cX10_partner 105 = .ok (.goto (-56), 3) := by decide +kernel
theorem dX10_partner_108 : decode cX10_partner 108 = .ok (.goto (-67), 3) := by decide +kernel
theorem dX10_partner_111 : decode cX10_partner 111 = .ok (.aload_n 0, 1) := by decide +kernel
theorem dX10_partner_112 : decode cX10_partner 112 = .ok (.getfield 74, 3) := by decide +kernel
theorem dX10_partner_115 : decode cX10_partner 115 = .ok (.iload_n 1, 1) := by decide +kernel
theorem dX10_partner_116 : decode cX10_partner 116 = .ok (.iaload, 1) := by decide +kernel
theorem dX10_partner_117 : decode cX10_partner 117 = .ok (.ireturn, 1) := by decide +kernel
theorem dX10_duck_0 : decode cX10_duck 0 = .ok (.iload_n 1, 1) := by decide +kernel
theorem dX10_duck_1 : decode cX10_duck 1 = .ok (.i2l, 1) := by decide +kernel
theorem dX10_duck_2 : decode cX10_duck 2 = .ok (.lconst 0, 1) := by decide +kernel
theorem dX10_duck_3 : decode cX10_duck 3 = .ok (.ldc2_w 302, 3) := by decide +kernel
theorem dX10_duck_6 : decode cX10_duck 6 = .ok (.invokestatic 105, 3) := by decide +kernel
theorem dX10_duck_9 : decode cX10_duck 9 = .ok (.ifCond .eq 19, 3) := by decide +kernel
theorem dX10_duck_12 : decode cX10_duck 12 = .ok (.iload_n 2, 1) := by decide +kernel
theorem dX10_duck_13 : decode cX10_duck 13 = .ok (.i2l, 1) := by decide +kernel
theorem dX10_duck_14 : decode cX10_duck 14 = .ok (.lconst 0, 1) := by decide +kernel
theorem dX10_duck_15 : decode cX10_duck 15 = .ok (.aload_n 0, 1) := by decide +kernel
theorem dX10_duck_16 : decode cX10_duck 16 = .ok (.getfield 99, 3) := by decide +kernel
theorem dX10_duck_19 : decode cX10_duck 19 = .ok (.iconst 1, 1) := by decide +kernel
theorem dX10_duck_20 : decode cX10_duck 20 = .ok (.isub, 1) := by decide +kernel
theorem dX10_duck_21 : decode cX10_duck 21 = .ok (.i2l, 1) := by decide +kernel
theorem dX10_duck_22 : decode cX10_duck 22 = .ok (.invokestatic 105, 3) := by decide +kernel
theorem dX10_duck_25 : decode cX10_duck 25 = .ok (.ifCond .ne 6, 3) := by decide +kernel
theorem dX10_duck_28 : decode cX10_duck 28 = .ok (.ldc 111, 2) := by decide +kernel
theorem dX10_duck_30 : decode cX10_duck 30 = .ok (.ireturn, 1) := by decide +kernel
theorem dX10_duck_31 : decode cX10_duck 31 = .ok (.aload_n 0, 1) := by decide +kernel
theorem dX10_duck_32 : decode cX10_duck 32 = .ok (.getfield 185, 3) := by decide +kernel
theorem dX10_duck_35 : decode cX10_duck 35 = .ok (.bipush 6, 2) := by decide +kernel
theorem dX10_duck_37 : decode cX10_duck 37 = .ok (.if_icmp .ne 6, 3) := by decide +kernel
theorem dX10_duck_40 : decode cX10_duck 40 = .ok (.ldc 115, 2) := by decide +kernel
theorem dX10_duck_42 : decode cX10_duck 42 = .ok (.ireturn, 1) := by decide +kernel
theorem dX10_duck_43 : decode cX10_duck 43 = .ok (.aload_n 0, 1) := by decide +kernel
theorem dX10_duck_44 : decode cX10_duck 44 = .ok (.getfield 77, 3) := by decide +kernel
theorem dX10_duck_47 : decode cX10_duck 47 = .ok (.aload_n 0, 1) := by decide +kernel
theorem dX10_duck_48 : decode cX10_duck 48 = .ok (.getfield 185, 3) := by decide +kernel
theorem dX10_duck_51 : decode cX10_duck 51 = .ok (.iload_n 1, 1) := by decide +kernel
theorem dX10_duck_52 : decode cX10_duck 52 = .ok (.iastore, 1) := by decide +kernel
theorem dX10_duck_53 : decode cX10_duck 53 = .ok (.aload_n 0, 1) := by decide +kernel
theorem dX10_duck_54 : decode cX10_duck 54 = .ok (.getfield 80, 3) := by decide +kernel
theorem dX10_duck_57 : decode cX10_duck 57 = .ok (.aload_n 0, 1) := by decide +kernel
theorem dX10_duck_58 : decode cX10_duck 58 = .ok (.getfield 185, 3) := by decide +kernel
theorem dX10_duck_61 : decode cX10_duck 61 = .ok (.iload_n 2, 1) := by decide +kernel
theorem dX10_duck_62 : decode cX10_duck 62 = .ok (.iastore, 1) := by decide +kernel
theorem dX10_duck_63 : decode cX10_duck 63 = .ok (.aload_n 0, 1) := by decide +kernel
theorem dX10_duck_64 : decode cX10_duck 64 = .ok (.dup, 1) := by decide +kernel
theorem dX10_duck_65 : decode cX10_duck 65 = .ok (.getfield 185, 3) := by decide +kernel
theorem dX10_duck_68 : decode cX10_duck 68 = .ok (.iconst 1, 1) := by decide +kernel
theorem dX10_duck_69 : decode cX10_duck 69 = .ok (.iadd, 1) := by decide +kernel
theorem dX10_duck_70 : decode cX10_duck 70 = .ok (.putfield 185, 3) := by decide +kernel
theorem dX10_duck_73 : decode cX10_duck 73 = .ok (.aload_n 0, 1) := by decide +kernel
theorem dX10_duck_74 : decode cX10_duck 74 = .ok (.getfield 185, 3) := by decide +kernel
theorem dX10_duck_77 : decode cX10_duck 77 = .ok (.ireturn, 1) := by decide +kernel
theorem dX10_litOver_0 : decode cX10_litOver 0 = .ok (.iconst 0, 1) := by decide +kernel
theorem dX10_litOver_1 : decode cX10_litOver 1 = .ok (.istore_n 2, 1) := by decide +kernel
theorem dX10_litOver_2 : decode cX10_litOver 2 = .ok (.iconst 0, 1) := by decide +kernel
theorem dX10_litOver_3 : decode cX10_litOver 3 = .ok (.istore_n 3, 1) := by decide +kernel
theorem dX10_litOver_4 : decode cX10_litOver 4 = .ok (.iload_n 3, 1) := by decide +kernel
theorem dX10_litOver_5 : decode cX10_litOver 5 = .ok (.aload_n 0, 1) := by decide +kernel
theorem dX10_litOver_6 : decode cX10_litOver 6 = .ok (.getfield 102, 3) := by decide +kernel
theorem dX10_litOver_9 : decode cX10_litOver 9 = .ok (.if_icmp .ge 28, 3) := by decide +kernel
theorem dX10_litOver_12 : decode cX10_litOver 12 = .ok (.iload_n 2, 1) := by decide +kernel
theorem dX10_litOver_13 : decode cX10_litOver 13 = .ok (.aload_n 0, 1) := by decide +kernel
theorem dX10_litOver_14 : decode cX10_litOver 14 = .ok (.iload_n 3, 1) := by decide +kernel
theorem dX10_litOver_15 : decode cX10_litOver 15 = .ok (.invokevirtual 214, 3) := by decide +kernel
theorem dX10_litOver_18 : decode cX10_litOver 18 = .ok (.iload_n 1, 1) := by decide +kernel
theorem dX10_litOver_19 : decode cX10_litOver 19 = .ok (.if_icmp .ne 9, 3) := by decide +kernel
theorem dX10_litOver_22 : decode cX10_litOver 22 = .ok (.iconst 1, 1) := by decide +kernel
theorem dX10_litOver_23 : decode cX10_litOver 23 = .ok (.iload_n 3, 1) := by decide +kernel
theorem dX10_litOver_24 : decode cX10_litOver 24 = .ok (.ishl, 1) := by decide +kernel
theorem dX10_litOver_25 : decode cX10_litOver 25 = .ok (.goto 4, 3) := by decide +kernel
theorem dX10_litOver_28 : decode cX10_litOver 28 = .ok (.iconst 0, 1) := by decide +kernel
theorem dX10_litOver_29 : decode cX10_litOver 29 = .ok (.ior, 1) := by decide +kernel
theorem dX10_litOver_30 : decode cX10_litOver 30 = .ok (.istore_n 2, 1) := by decide +kernel
theorem dX10_litOver_31 : decode cX10_litOver 31 = .ok (.iinc 3 1, 3) := by decide +kernel
theorem dX10_litOver_34 : decode cX10_litOver 34 = .ok (.goto (-30), 3) := by decide +kernel
theorem dX10_litOver_37 : decode cX10_litOver 37 = .ok (.iload_n 2, 1) := by decide +kernel
theorem dX10_litOver_38 : decode cX10_litOver 38 = .ok (.ireturn, 1) := by decide +kernel
theorem dX10_lit_0 : decode cX10_lit 0 = .ok (.iload_n 1, 1) := by decide +kernel
theorem dX10_lit_1 : decode cX10_lit 1 = .ok (.iconst (-1), 1) := by decide +kernel
theorem dX10_lit_2 : decode cX10_lit 2 = .ok (.if_icmp .eq 34, 3) := by decide +kernel
theorem dX10_lit_5 : decode cX10_lit 5 = .ok (.iload_n 1, 1) := by decide +kernel
theorem dX10_lit_6 : decode cX10_lit 6 = .ok (.i2l, 1) := by decide +kernel
theorem dX10_lit_7 : decode cX10_lit 7 = .ok (.lconst 0, 1) := by decide +kernel
theorem dX10_lit_8 : decode cX10_lit 8 = .ok (.aload_n 0, 1) := by decide +kernel
theorem dX10_lit_9 : decode cX10_lit 9 = .ok (.getfield 185, 3) := by decide +kernel
theorem dX10_lit_12 : decode cX10_lit 12 = .ok (.iconst 1, 1) := by decide +kernel
theorem dX10_lit_13 : decode cX10_lit 13 = .ok (.isub, 1) := by decide +kernel
theorem dX10_lit_14 : decode cX10_lit 14 = .ok (.i2l, 1) := by decide +kernel
theorem dX10_lit_15 : decode cX10_lit 15 = .ok (.invokestatic 105, 3) := by decide +kernel
theorem dX10_lit_18 : decode cX10_lit 18 = .ok (.ifCond .eq 16, 3) := by decide +kernel
theorem dX10_lit_21 : decode cX10_lit 21 = .ok (.aload_n 0, 1) := by decide +kernel
theorem dX10_lit_22 : decode cX10_lit 22 = .ok (.aload_n 0, 1) := by decide +kernel
theorem dX10_lit_23 : decode cX10_lit 23 = .ok (.getfield 80, 3) := by decide +kernel
theorem dX10_lit_26 : decode cX10_lit 26 = .ok (.iload_n 1, 1) := by decide +kernel
theorem dX10_lit_27 : decode cX10_lit 27 = .ok (.iaload, 1) := by decide +kernel
theorem dX10_lit_28 : decode cX10_lit 28 = .ok (.invokevirtual 304, 3) := by decide +kernel
theorem dX10_lit_31 : decode cX10_lit 31 = .ok (.goto 4, 3) := by decide +kernel
theorem dX10_lit_34 : decode cX10_lit 34 = .ok (.iconst (-1), 1) := by decide +kernel
theorem dX10_lit_35 : decode cX10_lit 35 = .ok (.ireturn, 1) := by decide +kernel
theorem dX10_lit_36 : decode cX10_lit 36 = .ok (.iconst 1, 1) := by decide +kernel
theorem dX10_lit_37 : decode cX10_lit 37 = .ok (.istore_n 2, 1) := by decide +kernel
theorem dX10_lit_38 : decode cX10_lit 38 = .ok (.iconst 0, 1) := by decide +kernel
theorem dX10_lit_39 : decode cX10_lit 39 = .ok (.istore_n 3, 1) := by decide +kernel
theorem dX10_lit_40 : decode cX10_lit 40 = .ok (.iload_n 3, 1) := by decide +kernel
theorem dX10_lit_41 : decode cX10_lit 41 = .ok (.aload_n 0, 1) := by decide +kernel
theorem dX10_lit_42 : decode cX10_lit 42 = .ok (.getfield 185, 3) := by decide +kernel
theorem dX10_lit_45 : decode cX10_lit 45 = .ok (.if_icmp .ge 95, 3) := by decide +kernel
theorem dX10_lit_48 : decode cX10_lit 48 = .ok (.aload_n 0, 1) := by decide +kernel
theorem dX10_lit_49 : decode cX10_lit 49 = .ok (.aload_n 0, 1) := by decide +kernel
theorem dX10_lit_50 : decode cX10_lit 50 = .ok (.getfield 80, 3) := by decide +kernel
theorem dX10_lit_53 : decode cX10_lit 53 = .ok (.iload_n 3, 1) := by decide +kernel
theorem dX10_lit_54 : decode cX10_lit 54 = .ok (.iaload, 1) := by decide +kernel
theorem dX10_lit_55 : decode cX10_lit 55 = .ok (.invokevirtual 304, 3) := by decide +kernel
theorem dX10_lit_58 : decode cX10_lit 58 = .ok (.invokestatic 272, 3) := by decide +kernel
theorem dX10_lit_61 : decode cX10_lit 61 = .ok (.istore 4, 2) := by decide +kernel
theorem dX10_lit_63 : decode cX10_lit 63 = .ok (.iconst 0, 1) := by decide +kernel
theorem dX10_lit_64 : decode cX10_lit 64 = .ok (.istore 5, 2) := by decide +kernel
theorem dX10_lit_66 : decode cX10_lit 66 = .ok (.iload 5, 2) := by decide +kernel
theorem dX10_lit_68 : decode cX10_lit 68 = .ok (.iload_n 3, 1) := by decide +kernel
theorem dX10_lit_69 : decode cX10_lit 69 = .ok (.if_icmp .ge 51, 3) := by decide +kernel
theorem dX10_lit_72 : decode cX10_lit 72 = .ok (.iload 4, 2) := by decide +kernel
theorem dX10_lit_74 : decode cX10_lit 74 = .ok (.aload_n 0, 1) := by decide +kernel
theorem dX10_lit_75 : decode cX10_lit 75 = .ok (.getfield 77, 3) := by decide +kernel
theorem dX10_lit_78 : decode cX10_lit 78 = .ok (.iload_n 3, 1) := by decide +kernel
theorem dX10_lit_79 : decode cX10_lit 79 = .ok (.iaload, 1) := by decide +kernel
theorem dX10_lit_80 : decode cX10_lit 80 = .ok (.aload_n 0, 1) := by decide +kernel
theorem dX10_lit_81 : decode cX10_lit 81 = .ok (.getfield 77, 3) := by decide +kernel
theorem dX10_lit_84 : decode cX10_lit 84 = .ok (.iload 5, 2) := by decide +kernel
theorem dX10_lit_86 : decode cX10_lit 86 = .ok (.iaload, 1) := by decide +kernel
theorem dX10_lit_87 : decode cX10_lit 87 = .ok (.if_icmp .ne 23, 3) := by decide +kernel
theorem dX10_lit_90 : decode cX10_lit 90 = .ok (.aload_n 0, 1) := by decide +kernel
theorem dX10_lit_91 : decode cX10_lit 91 = .ok (.getfield 80, 3) := by decide +kernel
theorem dX10_lit_94 : decode cX10_lit 94 = .ok (.iload_n 3, 1) := by decide +kernel
theorem dX10_lit_95 : decode cX10_lit 95 = .ok (.iaload, 1) := by decide +kernel
theorem dX10_lit_96 : decode cX10_lit 96 = .ok (.aload_n 0, 1) := by decide +kernel
theorem dX10_lit_97 : decode cX10_lit 97 = .ok (.getfield 80, 3) := by decide +kernel
theorem dX10_lit_100 : decode cX10_lit 100 = .ok (.iload 5, 2) := by decide +kernel
theorem dX10_lit_102 : decode cX10_lit 102 = .ok (.iaload, 1) := by decide +kernel
theorem dX10_lit_103 : decode cX10_lit 103 = .ok (.if_icmp .ne 7, 3) := by decide +kernel
theorem dX10_lit_106 : decode cX10_lit 106 = .ok (.iconst 1, 1) := by decide +kernel
theorem dX10_lit_107 : decode cX10_lit 107 = .ok (.goto 4, 3) := by decide +kernel
theorem dX10_lit_110 : decode cX10_lit 110 = .ok (.iconst 0, 1) := by decide +kernel
theorem dX10_lit_111 : decode cX10_lit 111 = .ok (.isub, 1) := by decide +kernel
theorem dX10_lit_112 : decode cX10_lit 112 = .ok (.istore 4, 2) := by decide +kernel
theorem dX10_lit_114 : decode cX10_lit 114 = .ok (.iinc 5 1, 3) := by decide +kernel
theorem dX10_lit_117 : decode cX10_lit 117 = .ok (.goto (-51), 3) := by decide +kernel
theorem dX10_lit_120 : decode cX10_lit 120 = .ok (.iload_n 2, 1) := by decide +kernel
theorem dX10_lit_121 : decode cX10_lit 121 = .ok (.iload 4, 2) := by decide +kernel
theorem dX10_lit_123 : decode cX10_lit 123 = .ok (.ifCond .le 8, 3) := by decide +kernel
theorem dX10_lit_126 : decode cX10_lit 126 = .ok (.iload 4, 2) := by decide +kernel
theorem dX10_lit_128 : decode cX10_lit 128 = .ok (.goto 4, 3) := by decide +kernel
theorem dX10_lit_131 : decode cX10_lit 131 = .ok (.iconst 0, 1) := by decide +kernel
theorem dX10_lit_132 : decode cX10_lit 132 = .ok (.imul, 1) := by decide +kernel
theorem dX10_lit_133 : decode cX10_lit 133 = .ok (.istore_n 2, 1) := by decide +kernel
theorem dX10_lit_134 : decode cX10_lit 134 = .ok (.iinc 3 1, 3) := by decide +kernel
theorem dX10_lit_137 : decode cX10_lit 137 = .ok (.goto (-97), 3) := by decide +kernel
theorem dX10_lit_140 : decode cX10_lit 140 = .ok (.iload_n 2, 1) := by decide +kernel
theorem dX10_lit_141 : decode cX10_lit 141 = .ok (.ireturn, 1) := by decide +kernel
theorem dX10_write_0 : decode cX10_write 0 = .ok (.aload_n 0, 1) := by decide +kernel
theorem dX10_write_1 : decode cX10_write 1 = .ok (.iload_n 1, 1) := by decide +kernel
theorem dX10_write_2 : decode cX10_write 2 = .ok (.iload_n 2, 1) := by decide +kernel
theorem dX10_write_3 : decode cX10_write 3 = .ok (.invokevirtual 226, 3) := by decide +kernel
theorem dX10_write_6 : decode cX10_write 6 = .ok (.ifCond .ne 6, 3) := by decide +kernel
theorem dX10_write_9 : decode cX10_write 9 = .ok (.ldc 207, 2) := by decide +kernel
theorem dX10_write_11 : decode cX10_write 11 = .ok (.ireturn, 1) := by decide +kernel
theorem dX10_write_12 : decode cX10_write 12 = .ok (.aload_n 0, 1) := by decide +kernel
theorem dX10_write_13 : decode cX10_write 13 = .ok (.getfield 188, 3) := by decide +kernel
theorem dX10_write_16 : decode cX10_write 16 = .ok (.bipush 15, 2) := by decide +kernel
theorem dX10_write_18 : decode cX10_write 18 = .ok (.if_icmp .ne 6, 3) := by decide +kernel
theorem dX10_write_21 : decode cX10_write 21 = .ok (.ldc 115, 2) := by decide +kernel
theorem dX10_write_23 : decode cX10_write 23 = .ok (.ireturn, 1) := by decide +kernel
theorem dX10_write_24 : decode cX10_write 24 = .ok (.aload_n 0, 1) := by decide +kernel
theorem dX10_write_25 : decode cX10_write 25 = .ok (.getfield 83, 3) := by decide +kernel
theorem dX10_write_28 : decode cX10_write 28 = .ok (.aload_n 0, 1) := by decide +kernel
theorem dX10_write_29 : decode cX10_write 29 = .ok (.getfield 188, 3) := by decide +kernel
theorem dX10_write_32 : decode cX10_write 32 = .ok (.iload_n 1, 1) := by decide +kernel
theorem dX10_write_33 : decode cX10_write 33 = .ok (.iastore, 1) := by decide +kernel
theorem dX10_write_34 : decode cX10_write 34 = .ok (.aload_n 0, 1) := by decide +kernel
theorem dX10_write_35 : decode cX10_write 35 = .ok (.getfield 86, 3) := by decide +kernel
theorem dX10_write_38 : decode cX10_write 38 = .ok (.aload_n 0, 1) := by decide +kernel
theorem dX10_write_39 : decode cX10_write 39 = .ok (.getfield 188, 3) := by decide +kernel
theorem dX10_write_42 : decode cX10_write 42 = .ok (.iload_n 2, 1) := by decide +kernel
theorem dX10_write_43 : decode cX10_write 43 = .ok (.iastore, 1) := by decide +kernel
theorem dX10_write_44 : decode cX10_write 44 = .ok (.aload_n 0, 1) := by decide +kernel
theorem dX10_write_45 : decode cX10_write 45 = .ok (.getfield 89, 3) := by decide +kernel
theorem dX10_write_48 : decode cX10_write 48 = .ok (.aload_n 0, 1) := by decide +kernel
theorem dX10_write_49 : decode cX10_write 49 = .ok (.getfield 188, 3) := by decide +kernel
theorem dX10_write_52 : decode cX10_write 52 = .ok (.iload_n 3, 1) := by decide +kernel
theorem dX10_write_53 : decode cX10_write 53 = .ok (.bastore, 1) := by decide +kernel
theorem dX10_write_54 : decode cX10_write 54 = .ok (.aload_n 0, 1) := by decide +kernel
theorem dX10_write_55 : decode cX10_write 55 = .ok (.dup, 1) := by decide +kernel
theorem dX10_write_56 : decode cX10_write 56 = .ok (.getfield 188, 3) := by decide +kernel
theorem dX10_write_59 : decode cX10_write 59 = .ok (.iconst 1, 1) := by decide +kernel
theorem dX10_write_60 : decode cX10_write 60 = .ok (.iadd, 1) := by decide +kernel
theorem dX10_write_61 : decode cX10_write 61 = .ok (.putfield 188, 3) := by decide +kernel
theorem dX10_write_64 : decode cX10_write 64 = .ok (.aload_n 0, 1) := by decide +kernel
theorem dX10_write_65 : decode cX10_write 65 = .ok (.getfield 188, 3) := by decide +kernel
theorem dX10_write_68 : decode cX10_write 68 = .ok (.ireturn, 1) := by decide +kernel
theorem dX10_tear_0 : decode cX10_tear 0 = .ok (.aload_n 0, 1) := by decide +kernel
theorem dX10_tear_1 : decode cX10_tear 1 = .ok (.getfield 185, 3) := by decide +kernel
theorem dX10_tear_4 : decode cX10_tear 4 = .ok (.aload_n 0, 1) := by decide +kernel
theorem dX10_tear_5 : decode cX10_tear 5 = .ok (.getfield 188, 3) := by decide +kernel
theorem dX10_tear_8 : decode cX10_tear 8 = .ok (.iadd, 1) := by decide +kernel
theorem dX10_tear_9 : decode cX10_tear 9 = .ok (.istore_n 1, 1) := by decide +kernel
theorem dX10_tear_10 : decode cX10_tear 10 = .ok (.aload_n 0, 1) := by decide +kernel
theorem dX10_tear_11 : decode cX10_tear 11 = .ok (.iconst 0, 1) := by decide +kernel
theorem dX10_tear_12 : decode cX10_tear 12 = .ok (.putfield 185, 3) := by decide +kernel
theorem dX10_tear_15 : decode cX10_tear 15 = .ok (.aload_n 0, 1) := by decide +kernel
theorem dX10_tear_16 : decode cX10_tear 16 = .ok (.iconst 0, 1) := by decide +kernel
theorem dX10_tear_17 : decode cX10_tear 17 = .ok (.putfield 188, 3) := by decide +kernel
theorem dX10_tear_20 : decode cX10_tear 20 = .ok (.iload_n 1, 1) := by decide +kernel
theorem dX10_tear_21 : decode cX10_tear 21 = .ok (.ireturn, 1) := by decide +kernel
theorem dX10_judge_0 : decode cX10_judge 0 = .ok (.iconst 0, 1) := by decide +kernel
theorem dX10_judge_1 : decode cX10_judge 1 = .ok (.istore_n 1, 1) := by decide +kernel
theorem dX10_judge_2 : decode cX10_judge 2 = .ok (.iload_n 1, 1) := by decide +kernel
theorem dX10_judge_3 : decode cX10_judge 3 = .ok (.aload_n 0, 1) := by decide +kernel
theorem dX10_judge_4 : decode cX10_judge 4 = .ok (.getfield 188, 3) := by decide +kernel
theorem dX10_judge_7 : decode cX10_judge 7 = .ok (.if_icmp .ge 43, 3) := by decide +kernel
theorem dX10_judge_10 : decode cX10_judge 10 = .ok (.aload_n 0, 1) := by decide +kernel
theorem dX10_judge_11 : decode cX10_judge 11 = .ok (.getfield 29, 3) := by decide +kernel
theorem dX10_judge_14 : decode cX10_judge 14 = .ok (.bipush 35, 2) := by decide +kernel
theorem dX10_judge_16 : decode cX10_judge 16 = .ok (.aload_n 0, 1) := by decide +kernel
theorem dX10_judge_17 : decode cX10_judge 17 = .ok (.getfield 83, 3) := by decide +kernel
theorem dX10_judge_20 : decode cX10_judge 20 = .ok (.iload_n 1, 1) := by decide +kernel
theorem dX10_judge_21 : decode cX10_judge 21 = .ok (.iaload, 1) := by decide +kernel
theorem dX10_judge_22 : decode cX10_judge 22 = .ok (.iadd, 1) := by decide +kernel
theorem dX10_judge_23 : decode cX10_judge 23 = .ok (.iaload, 1) := by decide +kernel
theorem dX10_judge_24 : decode cX10_judge 24 = .ok (.aload_n 0, 1) := by decide +kernel
theorem dX10_judge_25 : decode cX10_judge 25 = .ok (.getfield 86, 3) := by decide +kernel
theorem dX10_judge_28 : decode cX10_judge 28 = .ok (.iload_n 1, 1) := by decide +kernel
theorem dX10_judge_29 : decode cX10_judge 29 = .ok (.iaload, 1) := by decide +kernel
theorem dX10_judge_30 : decode cX10_judge 30 = .ok (.invokestatic 194, 3) := by decide +kernel
theorem dX10_judge_33 : decode cX10_judge 33 = .ok (.aload_n 0, 1) := by decide +kernel
theorem dX10_judge_34 : decode cX10_judge 34 = .ok (.getfield 89, 3) := by decide +kernel
theorem dX10_judge_37 : decode cX10_judge 37 = .ok (.iload_n 1, 1) := by decide +kernel
theorem dX10_judge_38 : decode cX10_judge 38 = .ok (.baload, 1) := by decide +kernel
theorem dX10_judge_39 : decode cX10_judge 39 = .ok (.if_icmp .eq 5, 3) := by decide +kernel
theorem dX10_judge_42 : decode cX10_judge 42 = .ok (.iload_n 1, 1) := by decide +kernel
theorem dX10_judge_43 : decode cX10_judge 43 = .ok (.ireturn, 1) := by decide +kernel
theorem dX10_judge_44 : decode cX10_judge 44 = .ok (.iinc 1 1, 3) := by decide +kernel
theorem dX10_judge_47 : decode cX10_judge 47 = .ok (.goto (-45), 3) := by decide +kernel
theorem dX10_judge_50 : decode cX10_judge 50 = .ok (.iconst (-1), 1) := by decide +kernel
theorem dX10_judge_51 : decode cX10_judge 51 = .ok (.ireturn, 1) := by decide +kernel
theorem dX10_seed_0 : decode cX10_seed 0 = .ok (.iload_n 1, 1) := by decide +kernel
theorem dX10_seed_1 : decode cX10_seed 1 = .ok (.ifCond .ge 6, 3) := by decide +kernel
theorem dX10_seed_4 : decode cX10_seed 4 = .ok (.ldc 111, 2) := by decide +kernel
theorem dX10_seed_6 : decode cX10_seed 6 = .ok (.ireturn, 1) := by decide +kernel
theorem dX10_seed_7 : decode cX10_seed 7 = .ok (.aload_n 0, 1) := by decide +kernel
theorem dX10_seed_8 : decode cX10_seed 8 = .ok (.getfield 255, 3) := by decide +kernel
theorem dX10_seed_11 : decode cX10_seed 11 = .ok (.istore_n 2, 1) := by decide +kernel
theorem dX10_seed_12 : decode cX10_seed 12 = .ok (.aload_n 0, 1) := by decide +kernel
theorem dX10_seed_13 : decode cX10_seed 13 = .ok (.iload_n 1, 1) := by decide +kernel
theorem dX10_seed_14 : decode cX10_seed 14 = .ok (.putfield 255, 3) := by decide +kernel
theorem dX10_seed_17 : decode cX10_seed 17 = .ok (.iload_n 2, 1) := by decide +kernel
theorem dX10_seed_18 : decode cX10_seed 18 = .ok (.ireturn, 1) := by decide +kernel
theorem dX10_keep_0 : decode cX10_keep 0 = .ok (.iload_n 1, 1) := by decide +kernel
theorem dX10_keep_1 : decode cX10_keep 1 = .ok (.i2l, 1) := by decide +kernel
theorem dX10_keep_2 : decode cX10_keep 2 = .ok (.lconst 0, 1) := by decide +kernel
theorem dX10_keep_3 : decode cX10_keep 3 = .ok (.lconst 1, 1) := by decide +kernel
theorem dX10_keep_4 : decode cX10_keep 4 = .ok (.invokestatic 105, 3) := by decide +kernel
theorem dX10_keep_7 : decode cX10_keep 7 = .ok (.ifCond .ne 6, 3) := by decide +kernel
theorem dX10_keep_10 : decode cX10_keep 10 = .ok (.ldc 207, 2) := by decide +kernel
theorem dX10_keep_12 : decode cX10_keep 12 = .ok (.ireturn, 1) := by decide +kernel
theorem dX10_keep_13 : decode cX10_keep 13 = .ok (.iconst 0, 1) := by decide +kernel
theorem dX10_keep_14 : decode cX10_keep 14 = .ok (.istore_n 2, 1) := by decide +kernel
theorem dX10_keep_15 : decode cX10_keep 15 = .ok (.iload_n 2, 1) := by decide +kernel
theorem dX10_keep_16 : decode cX10_keep 16 = .ok (.bipush 43, 2) := by decide +kernel
theorem dX10_keep_18 : decode cX10_keep 18 = .ok (.if_icmp .ge 26, 3) := by decide +kernel
theorem dX10_keep_21 : decode cX10_keep 21 = .ok (.aload_n 0, 1) := by decide +kernel
theorem dX10_keep_22 : decode cX10_keep 22 = .ok (.getfield 93, 3) := by decide +kernel
theorem dX10_keep_25 : decode cX10_keep 25 = .ok (.bipush 44, 2) := by decide +kernel
theorem dX10_keep_27 : decode cX10_keep 27 = .ok (.iload_n 1, 1) := by decide +kernel
theorem dX10_keep_28 : decode cX10_keep 28 = .ok (.imul, 1) := by decide +kernel
theorem dX10_keep_29 : decode cX10_keep 29 = .ok (.iload_n 2, 1) := by decide +kernel
theorem dX10_keep_30 : decode cX10_keep 30 = .ok (.iadd, 1) := by decide +kernel
theorem dX10_keep_31 : decode cX10_keep 31 = .ok (.aload_n 0, 1) := by decide +kernel
theorem dX10_keep_32 : decode cX10_keep 32 = .ok (.getfield 29, 3) := by decide +kernel
theorem dX10_keep_35 : decode cX10_keep 35 = .ok (.iload_n 2, 1) := by decide +kernel
theorem dX10_keep_36 : decode cX10_keep 36 = .ok (.iaload, 1) := by decide +kernel
theorem dX10_keep_37 : decode cX10_keep 37 = .ok (.iastore, 1) := by decide +kernel
theorem dX10_keep_38 : decode cX10_keep 38 = .ok (.iinc 2 1, 3) := by decide +kernel
theorem dX10_keep_41 : decode cX10_keep 41 = .ok (.goto (-26), 3) := by decide +kernel
theorem dX10_keep_44 : decode cX10_keep 44 = .ok (.aload_n 0, 1) := by decide +kernel
theorem dX10_keep_45 : decode cX10_keep 45 = .ok (.getfield 93, 3) := by decide +kernel
theorem dX10_keep_48 : decode cX10_keep 48 = .ok (.bipush 44, 2) := by decide +kernel
theorem dX10_keep_50 : decode cX10_keep 50 = .ok (.iload_n 1, 1) := by decide +kernel
theorem dX10_keep_51 : decode cX10_keep 51 = .ok (.imul, 1) := by decide +kernel
theorem dX10_keep_52 : decode cX10_keep 52 = .ok (.bipush 43, 2) := by decide +kernel
theorem dX10_keep_54 : decode cX10_keep 54 = .ok (.iadd, 1) := by decide +kernel
theorem dX10_keep_55 : decode cX10_keep 55 = .ok (.aload_n 0, 1) := by decide +kernel
theorem dX10_keep_56 : decode cX10_keep 56 = .ok (.getfield 255, 3) := by decide +kernel
theorem dX10_keep_59 : decode cX10_keep 59 = .ok (.iastore, 1) := by decide +kernel
theorem dX10_keep_60 : decode cX10_keep 60 = .ok (.aload_n 0, 1) := by decide +kernel
theorem dX10_keep_61 : decode cX10_keep 61 = .ok (.getfield 96, 3) := by decide +kernel
theorem dX10_keep_64 : decode cX10_keep 64 = .ok (.iload_n 1, 1) := by decide +kernel
theorem dX10_keep_65 : decode cX10_keep 65 = .ok (.iconst 1, 1) := by decide +kernel
theorem dX10_keep_66 : decode cX10_keep 66 = .ok (.bastore, 1) := by decide +kernel
theorem dX10_keep_67 : decode cX10_keep 67 = .ok (.aload_n 0, 1) := by decide +kernel
theorem dX10_keep_68 : decode cX10_keep 68 = .ok (.iconst 0, 1) := by decide +kernel
theorem dX10_keep_69 : decode cX10_keep 69 = .ok (.putfield 191, 3) := by decide +kernel
theorem dX10_keep_72 : decode cX10_keep 72 = .ok (.iconst 1, 1) := by decide +kernel
theorem dX10_keep_73 : decode cX10_keep 73 = .ok (.ireturn, 1) := by decide +kernel
theorem dX10_goBack_0 : decode cX10_goBack 0 = .ok (.iload_n 1, 1) := by decide +kernel
theorem dX10_goBack_1 : decode cX10_goBack 1 = .ok (.i2l, 1) := by decide +kernel
theorem dX10_goBack_2 : decode cX10_goBack 2 = .ok (.lconst 0, 1) := by decide +kernel
theorem dX10_goBack_3 : decode cX10_goBack 3 = .ok (.lconst 1, 1) := by decide +kernel
theorem dX10_goBack_4 : decode cX10_goBack 4 = .ok (.invokestatic 105, 3) := by decide +kernel
theorem dX10_goBack_7 : decode cX10_goBack 7 = .ok (.ifCond .ne 6, 3) := by decide +kernel
theorem dX10_goBack_10 : decode cX10_goBack 10 = .ok (.ldc 207, 2) := by decide +kernel
theorem dX10_goBack_12 : decode cX10_goBack 12 = .ok (.ireturn, 1) := by decide +kernel
theorem dX10_goBack_13 : decode cX10_goBack 13 = .ok (.aload_n 0, 1) := by decide +kernel
theorem dX10_goBack_14 : decode cX10_goBack 14 = .ok (.getfield 96, 3) := by decide +kernel
theorem dX10_goBack_17 : decode cX10_goBack 17 = .ok (.iload_n 1, 1) := by decide +kernel
theorem dX10_goBack_18 : decode cX10_goBack 18 = .ok (.baload, 1) := by decide +kernel
theorem dX10_goBack_19 : decode cX10_goBack 19 = .ok (.ifCond .ne 6, 3) := by decide +kernel
theorem dX10_goBack_22 : decode cX10_goBack 22 = .ok (.ldc 232, 2) := by decide +kernel
theorem dX10_goBack_24 : decode cX10_goBack 24 = .ok (.ireturn, 1) := by decide +kernel
theorem dX10_goBack_25 : decode cX10_goBack 25 = .ok (.iconst 0, 1) := by decide +kernel
theorem dX10_goBack_26 : decode cX10_goBack 26 = .ok (.istore_n 2, 1) := by decide +kernel
theorem dX10_goBack_27 : decode cX10_goBack 27 = .ok (.iload_n 2, 1) := by decide +kernel
theorem dX10_goBack_28 : decode cX10_goBack 28 = .ok (.bipush 43, 2) := by decide +kernel
theorem dX10_goBack_30 : decode cX10_goBack 30 = .ok (.if_icmp .ge 26, 3) := by decide +kernel
theorem dX10_goBack_33 : decode cX10_goBack 33 = .ok (.aload_n 0, 1) := by decide +kernel
theorem dX10_goBack_34 : decode cX10_goBack 34 = .ok (.getfield 29, 3) := by decide +kernel
theorem dX10_goBack_37 : decode cX10_goBack 37 = .ok (.iload_n 2, 1) := by decide +kernel
theorem dX10_goBack_38 : decode cX10_goBack 38 = .ok (.aload_n 0, 1) := by decide +kernel
theorem dX10_goBack_39 : decode cX10_goBack 39 = .ok (.getfield 93, 3) := by decide +kernel
theorem dX10_goBack_42 : decode cX10_goBack 42 = .ok (.bipush 44, 2) := by decide +kernel
theorem dX10_goBack_44 : decode cX10_goBack 44 = .ok (.iload_n 1, 1) := by decide +kernel
theorem dX10_goBack_45 : decode cX10_goBack 45 = .ok (.imul, 1) := by decide +kernel
theorem dX10_goBack_46 : decode cX10_goBack 46 = .ok (.iload_n 2, 1) := by decide +kernel
theorem dX10_goBack_47 : decode cX10_goBack 47 = .ok (.iadd, 1) := by decide +kernel
theorem dX10_goBack_48 : decode cX10_goBack 48 = .ok (.iaload, 1) := by decide +kernel
theorem dX10_goBack_49 : decode cX10_goBack 49 = .ok (.iastore, 1) := by decide +kernel
theorem dX10_goBack_50 : decode cX10_goBack 50 = .ok (.iinc 2 1, 3) := by decide +kernel
theorem dX10_goBack_53 : decode cX10_goBack 53 = .ok (.goto (-26), 3) := by decide +kernel
theorem dX10_goBack_56 : decode cX10_goBack 56 = .ok (.aload_n 0, 1) := by decide +kernel
theorem dX10_goBack_57 : decode cX10_goBack 57 = .ok (.aload_n 0, 1) := by decide +kernel
theorem dX10_goBack_58 : decode cX10_goBack 58 = .ok (.getfield 93, 3) := by decide +kernel
theorem dX10_goBack_61 : decode cX10_goBack 61 = .ok (.bipush 44, 2) := by decide +kernel
theorem dX10_goBack_63 : decode cX10_goBack 63 = .ok (.iload_n 1, 1) := by decide +kernel
theorem dX10_goBack_64 : decode cX10_goBack 64 = .ok (.imul, 1) := by decide +kernel
theorem dX10_goBack_65 : decode cX10_goBack 65 = .ok (.bipush 43, 2) := by decide +kernel
theorem dX10_goBack_67 : decode cX10_goBack 67 = .ok (.iadd, 1) := by decide +kernel
theorem dX10_goBack_68 : decode cX10_goBack 68 = .ok (.iaload, 1) := by decide +kernel
theorem dX10_goBack_69 : decode cX10_goBack 69 = .ok (.putfield 255, 3) := by decide +kernel
theorem dX10_goBack_72 : decode cX10_goBack 72 = .ok (.aload_n 0, 1) := by decide +kernel
theorem dX10_goBack_73 : decode cX10_goBack 73 = .ok (.iconst 0, 1) := by decide +kernel
theorem dX10_goBack_74 : decode cX10_goBack 74 = .ok (.putfield 191, 3) := by decide +kernel
theorem dX10_goBack_77 : decode cX10_goBack 77 = .ok (.iconst 1, 1) := by decide +kernel
theorem dX10_goBack_78 : decode cX10_goBack 78 = .ok (.ireturn, 1) := by decide +kernel
theorem dJ6_bitCount_0f7a4_0 : decode cJ6_bitCount_0f7a4 0 = .ok (.iload_n 0, 1) := by decide +kernel
theorem dJ6_bitCount_0f7a4_1 : decode cJ6_bitCount_0f7a4 1 = .ok (.iload_n 0, 1) := by decide +kernel
theorem dJ6_bitCount_0f7a4_2 : decode cJ6_bitCount_0f7a4 2 = .ok (.iconst 1, 1) := by decide +kernel
theorem dJ6_bitCount_0f7a4_3 : decode cJ6_bitCount_0f7a4 3 = .ok (.iushr, 1) := by decide +kernel
theorem dJ6_bitCount_0f7a4_4 : decode cJ6_bitCount_0f7a4 4 = .ok (.ldc_w 265, 3) := by decide +kernel
theorem dJ6_bitCount_0f7a4_7 : decode cJ6_bitCount_0f7a4 7 = .ok (.iand, 1) := by decide +kernel
theorem dJ6_bitCount_0f7a4_8 : decode cJ6_bitCount_0f7a4 8 = .ok (.isub, 1) := by decide +kernel
theorem dJ6_bitCount_0f7a4_9 : decode cJ6_bitCount_0f7a4 9 = .ok (.istore_n 0, 1) := by decide +kernel
theorem dJ6_bitCount_0f7a4_10 : decode cJ6_bitCount_0f7a4 10 = .ok (.iload_n 0, 1) := by decide +kernel
theorem dJ6_bitCount_0f7a4_11 : decode cJ6_bitCount_0f7a4 11 = .ok (.ldc_w 266, 3) := by decide +kernel
theorem dJ6_bitCount_0f7a4_14 : decode cJ6_bitCount_0f7a4 14 = .ok (.iand, 1) := by decide +kernel
theorem dJ6_bitCount_0f7a4_15 : decode cJ6_bitCount_0f7a4 15 = .ok (.iload_n 0, 1) := by decide +kernel
theorem dJ6_bitCount_0f7a4_16 : decode cJ6_bitCount_0f7a4 16 = .ok (.iconst 2, 1) := by decide +kernel
theorem dJ6_bitCount_0f7a4_17 : decode cJ6_bitCount_0f7a4 17 = .ok (.iushr, 1) := by decide +kernel
theorem dJ6_bitCount_0f7a4_18 : decode cJ6_bitCount_0f7a4 18 = .ok (.ldc_w 266, 3) := by decide +kernel
theorem dJ6_bitCount_0f7a4_21 : decode cJ6_bitCount_0f7a4 21 = .ok (.iand, 1) := by decide +kernel
theorem dJ6_bitCount_0f7a4_22 : decode cJ6_bitCount_0f7a4 22 = .ok (.iadd, 1) := by decide +kernel
theorem dJ6_bitCount_0f7a4_23 : decode cJ6_bitCount_0f7a4 23 = .ok (.istore_n 0, 1) := by decide +kernel
theorem dJ6_bitCount_0f7a4_24 : decode cJ6_bitCount_0f7a4 24 = .ok (.iload_n 0, 1) := by decide +kernel
theorem dJ6_bitCount_0f7a4_25 : decode cJ6_bitCount_0f7a4 25 = .ok (.iload_n 0, 1) := by decide +kernel
theorem dJ6_bitCount_0f7a4_26 : decode cJ6_bitCount_0f7a4 26 = .ok (.iconst 4, 1) := by decide +kernel
theorem dJ6_bitCount_0f7a4_27 : decode cJ6_bitCount_0f7a4 27 = .ok (.iushr, 1) := by decide +kernel
theorem dJ6_bitCount_0f7a4_28 : decode cJ6_bitCount_0f7a4 28 = .ok (.iadd, 1) := by decide +kernel
theorem dJ6_bitCount_0f7a4_29 : decode cJ6_bitCount_0f7a4 29 = .ok (.ldc_w 267, 3) := by decide +kernel
theorem dJ6_bitCount_0f7a4_32 : decode cJ6_bitCount_0f7a4 32 = .ok (.iand, 1) := by decide +kernel
theorem dJ6_bitCount_0f7a4_33 : decode cJ6_bitCount_0f7a4 33 = .ok (.istore_n 0, 1) := by decide +kernel
theorem dJ6_bitCount_0f7a4_34 : decode cJ6_bitCount_0f7a4 34 = .ok (.iload_n 0, 1) := by decide +kernel
theorem dJ6_bitCount_0f7a4_35 : decode cJ6_bitCount_0f7a4 35 = .ok (.iload_n 0, 1) := by decide +kernel
theorem dJ6_bitCount_0f7a4_36 : decode cJ6_bitCount_0f7a4 36 = .ok (.bipush 8, 2) := by decide +kernel
theorem dJ6_bitCount_0f7a4_38 : decode cJ6_bitCount_0f7a4 38 = .ok (.iushr, 1) := by decide +kernel
theorem dJ6_bitCount_0f7a4_39 : decode cJ6_bitCount_0f7a4 39 = .ok (.iadd, 1) := by decide +kernel
theorem dJ6_bitCount_0f7a4_40 : decode cJ6_bitCount_0f7a4 40 = .ok (.istore_n 0, 1) := by decide +kernel
theorem dJ6_bitCount_0f7a4_41 : decode cJ6_bitCount_0f7a4 41 = .ok (.iload_n 0, 1) := by decide +kernel
theorem dJ6_bitCount_0f7a4_42 : decode cJ6_bitCount_0f7a4 42 = .ok (.iload_n 0, 1) := by decide +kernel
theorem dJ6_bitCount_0f7a4_43 : decode cJ6_bitCount_0f7a4 43 = .ok (.bipush 16, 2) := by decide +kernel
theorem dJ6_bitCount_0f7a4_45 : decode cJ6_bitCount_0f7a4 45 = .ok (.iushr, 1) := by decide +kernel
theorem dJ6_bitCount_0f7a4_46 : decode cJ6_bitCount_0f7a4 46 = .ok (.iadd, 1) := by decide +kernel
theorem dJ6_bitCount_0f7a4_47 : decode cJ6_bitCount_0f7a4 47 = .ok (.istore_n 0, 1) := by decide +kernel
theorem dJ6_bitCount_0f7a4_48 : decode cJ6_bitCount_0f7a4 48 = .ok (.iload_n 0, 1) := by decide +kernel
theorem dJ6_bitCount_0f7a4_49 : decode cJ6_bitCount_0f7a4 49 = .ok (.bipush 63, 2) := by decide +kernel
theorem dJ6_bitCount_0f7a4_51 : decode cJ6_bitCount_0f7a4 51 = .ok (.iand, 1) := by decide +kernel
theorem dJ6_bitCount_0f7a4_52 : decode cJ6_bitCount_0f7a4 52 = .ok (.ireturn, 1) := by decide +kernel
theorem dJ9_abs_0f7a4_0 : decode cJ9_abs_0f7a4 0 = .ok (.iload_n 0, 1) := by decide +kernel
theorem dJ9_abs_0f7a4_1 : decode cJ9_abs_0f7a4 1 = .ok (.ifCond .ge 8, 3) := by decide +kernel
theorem dJ9_abs_0f7a4_4 : decode cJ9_abs_0f7a4 4 = .ok (.iload_n 0, 1) := by decide +kernel
theorem dJ9_abs_0f7a4_5 : decode cJ9_abs_0f7a4 5 = .ok (.ineg, 1) := by decide +kernel
theorem dJ9_abs_0f7a4_6 : decode cJ9_abs_0f7a4 6 = .ok (.goto 4, 3) := by decide +kernel
theorem dJ9_abs_0f7a4_9 : decode cJ9_abs_0f7a4 9 = .ok (.iload_n 0, 1) := by decide +kernel
theorem dJ9_abs_0f7a4_10 : decode cJ9_abs_0f7a4 10 = .ok (.ireturn, 1) := by decide +kernel
theorem dJ9_max_7cf53_0 : decode cJ9_max_7cf53 0 = .ok (.iload_n 0, 1) := by decide +kernel
theorem dJ9_max_7cf53_1 : decode cJ9_max_7cf53 1 = .ok (.iload_n 1, 1) := by decide +kernel
theorem dJ9_max_7cf53_2 : decode cJ9_max_7cf53 2 = .ok (.if_icmp .lt 7, 3) := by decide +kernel
theorem dJ9_max_7cf53_5 : decode cJ9_max_7cf53 5 = .ok (.iload_n 0, 1) := by decide +kernel
theorem dJ9_max_7cf53_6 : decode cJ9_max_7cf53 6 = .ok (.goto 4, 3) := by decide +kernel
theorem dJ9_max_7cf53_9 : decode cJ9_max_7cf53 9 = .ok (.iload_n 1, 1) := by decide +kernel
theorem dJ9_max_7cf53_10 : decode cJ9_max_7cf53 10 = .ok (.ireturn, 1) := by decide +kernel
theorem dJ9_min_7cf53_0 : decode cJ9_min_7cf53 0 = .ok (.iload_n 0, 1) := by decide +kernel
theorem dJ9_min_7cf53_1 : decode cJ9_min_7cf53 1 = .ok (.iload_n 1, 1) := by decide +kernel
theorem dJ9_min_7cf53_2 : decode cJ9_min_7cf53 2 = .ok (.if_icmp .gt 7, 3) := by decide +kernel
theorem dJ9_min_7cf53_5 : decode cJ9_min_7cf53 5 = .ok (.iload_n 0, 1) := by decide +kernel
theorem dJ9_min_7cf53_6 : decode cJ9_min_7cf53 6 = .ok (.goto 4, 3) := by decide +kernel
theorem dJ9_min_7cf53_9 : decode cJ9_min_7cf53 9 = .ok (.iload_n 1, 1) := by decide +kernel
theorem dJ9_min_7cf53_10 : decode cJ9_min_7cf53 10 = .ok (.ireturn, 1) := by decide +kernel
theorem dL_law_0 : decode cL_law 0 = .ok (.new 7, 3) := by decide +kernel
theorem dL_law_3 : decode cL_law 3 = .ok (.dup, 1) := by decide +kernel
theorem dL_law_4 : decode cL_law 4 = .ok (.invokespecial 9, 3) := by decide +kernel
theorem dL_law_7 : decode cL_law 7 = .ok (.astore_n 1, 1) := by decide +kernel
theorem dL_law_8 : decode cL_law 8 = .ok (.new 10, 3) := by decide +kernel
theorem dL_law_11 : decode cL_law 11 = .ok (.dup, 1) := by decide +kernel
theorem dL_law_12 : decode cL_law 12 = .ok (.invokespecial 12, 3) := by decide +kernel
theorem dL_law_15 : decode cL_law 15 = .ok (.astore_n 2, 1) := by decide +kernel
theorem dL_law_16 : decode cL_law 16 = .ok (.iconst 0, 1) := by decide +kernel
theorem dL_law_17 : decode cL_law 17 = .ok (.istore_n 3, 1) := by decide +kernel
theorem dL_law_18 : decode cL_law 18 = .ok (.iload_n 3, 1) := by decide +kernel
end
section
theorem dL_law_19 : decode cL_law 19 = .ok (.aload_n 0, 1) := by decide +kernel
theorem dL_law_20 : decode cL_law 20 = .ok (.arraylength, 1) := by decide +kernel
theorem dL_law_21 : decode cL_law 21 = .ok (.iconst 4, 1) := by decide +kernel
theorem dL_law_22 : decode cL_law 22 = .ok (.isub, 1) := by decide +kernel
theorem dL_law_23 : decode cL_law 23 = .ok (.if_icmp .gt 880, 3) := by decide +kernel
theorem dL_law_26 : decode cL_law 26 = .ok (.aload_n 0, 1) := by decide +kernel
theorem dL_law_27 : decode cL_law 27 = .ok (.iload_n 3, 1) := by decide +kernel
theorem dL_law_28 : decode cL_law 28 = .ok (.iaload, 1) := by decide +kernel
theorem dL_law_29 : decode cL_law 29 = .ok (.bipush 31, 2) := by decide +kernel
theorem dL_law_31 : decode cL_law 31 = .ok (.iand, 1) := by decide +kernel
theorem dL_law_32 : decode cL_law 32 = .ok (.tableswitch 865 0 28 #[132, 155, 168, 181, 204, 237, 270, 303, 326, 349, 372, 395, 418, 431, 464, 487, 510, 543, 566, 609, 632, 655, 688, 711, 770, 783, 796, 819, 842], 132) := by decide +kernel
theorem dL_law_164 : decode cL_law 164 = .ok (.aload_n 1, 1) := by decide +kernel
theorem dL_law_165 : decode cL_law 165 = .ok (.aload_n 0, 1) := by decide +kernel
theorem dL_law_166 : decode cL_law 166 = .ok (.iload_n 3, 1) := by decide +kernel
theorem dL_law_167 : decode cL_law 167 = .ok (.iconst 1, 1) := by decide +kernel
theorem dL_law_168 : decode cL_law 168 = .ok (.iadd, 1) := by decide +kernel
theorem dL_law_169 : decode cL_law 169 = .ok (.iaload, 1) := by decide +kernel
theorem dL_law_170 : decode cL_law 170 = .ok (.invokevirtual 13, 3) := by decide +kernel
theorem dL_law_173 : decode cL_law 173 = .ok (.aload_n 2, 1) := by decide +kernel
theorem dL_law_174 : decode cL_law 174 = .ok (.aload_n 0, 1) := by decide +kernel
theorem dL_law_175 : decode cL_law 175 = .ok (.iload_n 3, 1) := by decide +kernel
theorem dL_law_176 : decode cL_law 176 = .ok (.iconst 1, 1) := by decide +kernel
theorem dL_law_177 : decode cL_law 177 = .ok (.iadd, 1) := by decide +kernel
theorem dL_law_178 : decode cL_law 178 = .ok (.iaload, 1) := by decide +kernel
theorem dL_law_179 : decode cL_law 179 = .ok (.invokevirtual 17, 3) := by decide +kernel
theorem dL_law_182 : decode cL_law 182 = .ok (.if_icmp .eq 715, 3) := by decide +kernel
theorem dL_law_185 : decode cL_law 185 = .ok (.iconst 0, 1) := by decide +kernel
theorem dL_law_186 : decode cL_law 186 = .ok (.ireturn, 1) := by decide +kernel
theorem dL_law_187 : decode cL_law 187 = .ok (.aload_n 1, 1) := by decide +kernel
theorem dL_law_188 : decode cL_law 188 = .ok (.invokevirtual 18, 3) := by decide +kernel
theorem dL_law_191 : decode cL_law 191 = .ok (.aload_n 2, 1) := by decide +kernel
theorem dL_law_192 : decode cL_law 192 = .ok (.invokevirtual 22, 3) := by decide +kernel
theorem dL_law_195 : decode cL_law 195 = .ok (.if_icmp .eq 702, 3) := by decide +kernel
theorem dL_law_198 : decode cL_law 198 = .ok (.iconst 0, 1) := by decide +kernel
theorem dL_law_199 : decode cL_law 199 = .ok (.ireturn, 1) := by decide +kernel
theorem dL_law_200 : decode cL_law 200 = .ok (.aload_n 1, 1) := by decide +kernel
theorem dL_law_201 : decode cL_law 201 = .ok (.invokevirtual 23, 3) := by decide +kernel
theorem dL_law_204 : decode cL_law 204 = .ok (.aload_n 2, 1) := by decide +kernel
theorem dL_law_205 : decode cL_law 205 = .ok (.invokevirtual 26, 3) := by decide +kernel
theorem dL_law_208 : decode cL_law 208 = .ok (.if_icmp .eq 689, 3) := by decide +kernel
theorem dL_law_211 : decode cL_law 211 = .ok (.iconst 0, 1) := by decide +kernel
theorem dL_law_212 : decode cL_law 212 = .ok (.ireturn, 1) := by decide +kernel
theorem dL_law_213 : decode cL_law 213 = .ok (.aload_n 1, 1) := by decide +kernel
theorem dL_law_214 : decode cL_law 214 = .ok (.aload_n 0, 1) := by decide +kernel
theorem dL_law_215 : decode cL_law 215 = .ok (.iload_n 3, 1) := by decide +kernel
theorem dL_law_216 : decode cL_law 216 = .ok (.iconst 1, 1) := by decide +kernel
theorem dL_law_217 : decode cL_law 217 = .ok (.iadd, 1) := by decide +kernel
theorem dL_law_218 : decode cL_law 218 = .ok (.iaload, 1) := by decide +kernel
theorem dL_law_219 : decode cL_law 219 = .ok (.invokevirtual 27, 3) := by decide +kernel
theorem dL_law_222 : decode cL_law 222 = .ok (.aload_n 2, 1) := by decide +kernel
theorem dL_law_223 : decode cL_law 223 = .ok (.aload_n 0, 1) := by decide +kernel
theorem dL_law_224 : decode cL_law 224 = .ok (.iload_n 3, 1) := by decide +kernel
theorem dL_law_225 : decode cL_law 225 = .ok (.iconst 1, 1) := by decide +kernel
theorem dL_law_226 : decode cL_law 226 = .ok (.iadd, 1) := by decide +kernel
theorem dL_law_227 : decode cL_law 227 = .ok (.iaload, 1) := by decide +kernel
theorem dL_law_228 : decode cL_law 228 = .ok (.invokevirtual 30, 3) := by decide +kernel
theorem dL_law_231 : decode cL_law 231 = .ok (.if_icmp .eq 666, 3) := by decide +kernel
theorem dL_law_234 : decode cL_law 234 = .ok (.iconst 0, 1) := by decide +kernel
theorem dL_law_235 : decode cL_law 235 = .ok (.ireturn, 1) := by decide +kernel
theorem dL_law_236 : decode cL_law 236 = .ok (.aload_n 1, 1) := by decide +kernel
theorem dL_law_237 : decode cL_law 237 = .ok (.aload_n 0, 1) := by decide +kernel
theorem dL_law_238 : decode cL_law 238 = .ok (.iload_n 3, 1) := by decide +kernel
theorem dL_law_239 : decode cL_law 239 = .ok (.iconst 1, 1) := by decide +kernel
theorem dL_law_240 : decode cL_law 240 = .ok (.iadd, 1) := by decide +kernel
theorem dL_law_241 : decode cL_law 241 = .ok (.iaload, 1) := by decide +kernel
theorem dL_law_242 : decode cL_law 242 = .ok (.aload_n 0, 1) := by decide +kernel
theorem dL_law_243 : decode cL_law 243 = .ok (.iload_n 3, 1) := by decide +kernel
theorem dL_law_244 : decode cL_law 244 = .ok (.iconst 2, 1) := by decide +kernel
theorem dL_law_245 : decode cL_law 245 = .ok (.iadd, 1) := by decide +kernel
theorem dL_law_246 : decode cL_law 246 = .ok (.iaload, 1) := by decide +kernel
theorem dL_law_247 : decode cL_law 247 = .ok (.invokevirtual 31, 3) := by decide +kernel
theorem dL_law_250 : decode cL_law 250 = .ok (.aload_n 2, 1) := by decide +kernel
theorem dL_law_251 : decode cL_law 251 = .ok (.aload_n 0, 1) := by decide +kernel
theorem dL_law_252 : decode cL_law 252 = .ok (.iload_n 3, 1) := by decide +kernel
theorem dL_law_253 : decode cL_law 253 = .ok (.iconst 1, 1) := by decide +kernel
theorem dL_law_254 : decode cL_law 254 = .ok (.iadd, 1) := by decide +kernel
theorem dL_law_255 : decode cL_law 255 = .ok (.iaload, 1) := by decide +kernel
theorem dL_law_256 : decode cL_law 256 = .ok (.aload_n 0, 1) := by decide +kernel
theorem dL_law_257 : decode cL_law 257 = .ok (.iload_n 3, 1) := by decide +kernel
theorem dL_law_258 : decode cL_law 258 = .ok (.iconst 2, 1) := by decide +kernel
theorem dL_law_259 : decode cL_law 259 = .ok (.iadd, 1) := by decide +kernel
theorem dL_law_260 : decode cL_law 260 = .ok (.iaload, 1) := by decide +kernel
theorem dL_law_261 : decode cL_law 261 = .ok (.invokevirtual 35, 3) := by decide +kernel
theorem dL_law_264 : decode cL_law 264 = .ok (.if_icmp .eq 633, 3) := by decide +kernel
theorem dL_law_267 : decode cL_law 267 = .ok (.iconst 0, 1) := by decide +kernel
theorem dL_law_268 : decode cL_law 268 = .ok (.ireturn, 1) := by decide +kernel
theorem dL_law_269 : decode cL_law 269 = .ok (.aload_n 1, 1) := by decide +kernel
theorem dL_law_270 : decode cL_law 270 = .ok (.aload_n 0, 1) := by decide +kernel
theorem dL_law_271 : decode cL_law 271 = .ok (.iload_n 3, 1) := by decide +kernel
theorem dL_law_272 : decode cL_law 272 = .ok (.iconst 1, 1) := by decide +kernel
theorem dL_law_273 : decode cL_law 273 = .ok (.iadd, 1) := by decide +kernel
theorem dL_law_274 : decode cL_law 274 = .ok (.iaload, 1) := by decide +kernel
theorem dL_law_275 : decode cL_law 275 = .ok (.aload_n 0, 1) := by decide +kernel
theorem dL_law_276 : decode cL_law 276 = .ok (.iload_n 3, 1) := by decide +kernel
theorem dL_law_277 : decode cL_law 277 = .ok (.iconst 2, 1) := by decide +kernel
theorem dL_law_278 : decode cL_law 278 = .ok (.iadd, 1) := by decide +kernel
theorem dL_law_279 : decode cL_law 279 = .ok (.iaload, 1) := by decide +kernel
theorem dL_law_280 : decode cL_law 280 = .ok (.invokevirtual 36, 3) := by decide +kernel
theorem dL_law_283 : decode cL_law 283 = .ok (.aload_n 2, 1) := by decide +kernel
theorem dL_law_284 : decode cL_law 284 = .ok (.aload_n 0, 1) := by decide +kernel
theorem dL_law_285 : decode cL_law 285 = .ok (.iload_n 3, 1) := by decide +kernel
theorem dL_law_286 : decode cL_law 286 = .ok (.iconst 1, 1) := by decide +kernel
theorem dL_law_287 : decode cL_law 287 = .ok (.iadd, 1) := by decide +kernel
theorem dL_law_288 : decode cL_law 288 = .ok (.iaload, 1) := by decide +kernel
theorem dL_law_289 : decode cL_law 289 = .ok (.aload_n 0, 1) := by decide +kernel
theorem dL_law_290 : decode cL_law 290 = .ok (.iload_n 3, 1) := by decide +kernel
theorem dL_law_291 : decode cL_law 291 = .ok (.iconst 2, 1) := by decide +kernel
theorem dL_law_292 : decode cL_law 292 = .ok (.iadd, 1) := by decide +kernel
theorem dL_law_293 : decode cL_law 293 = .ok (.iaload, 1) := by decide +kernel
theorem dL_law_294 : decode cL_law 294 = .ok (.invokevirtual 39, 3) := by decide +kernel
theorem dL_law_297 : decode cL_law 297 = .ok (.if_icmp .eq 600, 3) := by decide +kernel
theorem dL_law_300 : decode cL_law 300 = .ok (.iconst 0, 1) := by decide +kernel
theorem dL_law_301 : decode cL_law 301 = .ok (.ireturn, 1) := by decide +kernel
theorem dL_law_302 : decode cL_law 302 = .ok (.aload_n 1, 1) := by decide +kernel
theorem dL_law_303 : decode cL_law 303 = .ok (.aload_n 0, 1) := by decide +kernel
theorem dL_law_304 : decode cL_law 304 = .ok (.iload_n 3, 1) := by decide +kernel
theorem dL_law_305 : decode cL_law 305 = .ok (.iconst 1, 1) := by decide +kernel
theorem dL_law_306 : decode cL_law 306 = .ok (.iadd, 1) := by decide +kernel
theorem dL_law_307 : decode cL_law 307 = .ok (.iaload, 1) := by decide +kernel
theorem dL_law_308 : decode cL_law 308 = .ok (.aload_n 0, 1) := by decide +kernel
theorem dL_law_309 : decode cL_law 309 = .ok (.iload_n 3, 1) := by decide +kernel
theorem dL_law_310 : decode cL_law 310 = .ok (.iconst 2, 1) := by decide +kernel
theorem dL_law_311 : decode cL_law 311 = .ok (.iadd, 1) := by decide +kernel
theorem dL_law_312 : decode cL_law 312 = .ok (.iaload, 1) := by decide +kernel
theorem dL_law_313 : decode cL_law 313 = .ok (.invokevirtual 40, 3) := by decide +kernel
theorem dL_law_316 : decode cL_law 316 = .ok (.aload_n 2, 1) := by decide +kernel
theorem dL_law_317 : decode cL_law 317 = .ok (.aload_n 0, 1) := by decide +kernel
theorem dL_law_318 : decode cL_law 318 = .ok (.iload_n 3, 1) := by decide +kernel
theorem dL_law_319 : decode cL_law 319 = .ok (.iconst 1, 1) := by decide +kernel
theorem dL_law_320 : decode cL_law 320 = .ok (.iadd, 1) := by decide +kernel
theorem dL_law_321 : decode cL_law 321 = .ok (.iaload, 1) := by decide +kernel
theorem dL_law_322 : decode cL_law 322 = .ok (.aload_n 0, 1) := by decide +kernel
theorem dL_law_323 : decode cL_law 323 = .ok (.iload_n 3, 1) := by decide +kernel
theorem dL_law_324 : decode cL_law 324 = .ok (.iconst 2, 1) := by decide +kernel
theorem dL_law_325 : decode cL_law 325 = .ok (.iadd, 1) := by decide +kernel
theorem dL_law_326 : decode cL_law 326 = .ok (.iaload, 1) := by decide +kernel
theorem dL_law_327 : decode cL_law 327 = .ok (.invokevirtual 43, 3) := by decide +kernel
theorem dL_law_330 : decode cL_law 330 = .ok (.if_icmp .eq 567, 3) := by decide +kernel
theorem dL_law_333 : decode cL_law 333 = .ok (.iconst 0, 1) := by decide +kernel
theorem dL_law_334 : decode cL_law 334 = .ok (.ireturn, 1) := by decide +kernel
theorem dL_law_335 : decode cL_law 335 = .ok (.aload_n 1, 1) := by decide +kernel
theorem dL_law_336 : decode cL_law 336 = .ok (.aload_n 0, 1) := by decide +kernel
theorem dL_law_337 : decode cL_law 337 = .ok (.iload_n 3, 1) := by decide +kernel
theorem dL_law_338 : decode cL_law 338 = .ok (.iconst 1, 1) := by decide +kernel
theorem dL_law_339 : decode cL_law 339 = .ok (.iadd, 1) := by decide +kernel
theorem dL_law_340 : decode cL_law 340 = .ok (.iaload, 1) := by decide +kernel
theorem dL_law_341 : decode cL_law 341 = .ok (.invokevirtual 44, 3) := by decide +kernel
theorem dL_law_344 : decode cL_law 344 = .ok (.aload_n 2, 1) := by decide +kernel
theorem dL_law_345 : decode cL_law 345 = .ok (.aload_n 0, 1) := by decide +kernel
theorem dL_law_346 : decode cL_law 346 = .ok (.iload_n 3, 1) := by decide +kernel
theorem dL_law_347 : decode cL_law 347 = .ok (.iconst 1, 1) := by decide +kernel
theorem dL_law_348 : decode cL_law 348 = .ok (.iadd, 1) := by decide +kernel
theorem dL_law_349 : decode cL_law 349 = .ok (.iaload, 1) := by decide +kernel
theorem dL_law_350 : decode cL_law 350 = .ok (.invokevirtual 47, 3) := by decide +kernel
theorem dL_law_353 : decode cL_law 353 = .ok (.if_icmp .eq 544, 3) := by decide +kernel
theorem dL_law_356 : decode cL_law 356 = .ok (.iconst 0, 1) := by decide +kernel
theorem dL_law_357 : decode cL_law 357 = .ok (.ireturn, 1) := by decide +kernel
theorem dL_law_358 : decode cL_law 358 = .ok (.aload_n 1, 1) := by decide +kernel
theorem dL_law_359 : decode cL_law 359 = .ok (.aload_n 0, 1) := by decide +kernel
theorem dL_law_360 : decode cL_law 360 = .ok (.iload_n 3, 1) := by decide +kernel
theorem dL_law_361 : decode cL_law 361 = .ok (.iconst 1, 1) := by decide +kernel
theorem dL_law_362 : decode cL_law 362 = .ok (.iadd, 1) := by decide +kernel
theorem dL_law_363 : decode cL_law 363 = .ok (.iaload, 1) := by decide +kernel
theorem dL_law_364 : decode cL_law 364 = .ok (.invokevirtual 48, 3) := by decide +kernel
theorem dL_law_367 : decode cL_law 367 = .ok (.aload_n 2, 1) := by decide +kernel
theorem dL_law_368 : decode cL_law 368 = .ok (.aload_n 0, 1) := by decide +kernel
theorem dL_law_369 : decode cL_law 369 = .ok (.iload_n 3, 1) := by decide +kernel
theorem dL_law_370 : decode cL_law 370 = .ok (.iconst 1, 1) := by decide +kernel
theorem dL_law_371 : decode cL_law 371 = .ok (.iadd, 1) := by decide +kernel
theorem dL_law_372 : decode cL_law 372 = .ok (.iaload, 1) := by decide +kernel
theorem dL_law_373 : decode cL_law 373 = .ok (.invokevirtual 51, 3) := by decide +kernel
theorem dL_law_376 : decode cL_law 376 = .ok (.if_icmp .eq 521, 3) := by decide +kernel
theorem dL_law_379 : decode cL_law 379 = .ok (.iconst 0, 1) := by decide +kernel
theorem dL_law_380 : decode cL_law 380 = .ok (.ireturn, 1) := by decide +kernel
theorem dL_law_381 : decode cL_law 381 = .ok (.aload_n 1, 1) := by decide +kernel
theorem dL_law_382 : decode cL_law 382 = .ok (.aload_n 0, 1) := by decide +kernel
theorem dL_law_383 : decode cL_law 383 = .ok (.iload_n 3, 1) := by decide +kernel
theorem dL_law_384 : decode cL_law 384 = .ok (.iconst 1, 1) := by decide +kernel
theorem dL_law_385 : decode cL_law 385 = .ok (.iadd, 1) := by decide +kernel
theorem dL_law_386 : decode cL_law 386 = .ok (.iaload, 1) := by decide +kernel
theorem dL_law_387 : decode cL_law 387 = .ok (.invokevirtual 52, 3) := by decide +kernel
theorem dL_law_390 : decode cL_law 390 = .ok (.aload_n 2, 1) := by decide +kernel
theorem dL_law_391 : decode cL_law 391 = .ok (.aload_n 0, 1) := by decide +kernel
theorem dL_law_392 : decode cL_law 392 = .ok (.iload_n 3, 1) := by decide +kernel
theorem dL_law_393 : decode cL_law 393 = .ok (.iconst 1, 1) := by decide +kernel
theorem dL_law_394 : decode cL_law 394 = .ok (.iadd, 1) := by decide +kernel
theorem dL_law_395 : decode cL_law 395 = .ok (.iaload, 1) := by decide +kernel
theorem dL_law_396 : decode cL_law 396 = .ok (.invokevirtual 55, 3) := by decide +kernel
theorem dL_law_399 : decode cL_law 399 = .ok (.if_icmp .eq 498, 3) := by decide +kernel
theorem dL_law_402 : decode cL_law 402 = .ok (.iconst 0, 1) := by decide +kernel
theorem dL_law_403 : decode cL_law 403 = .ok (.ireturn, 1) := by decide +kernel
theorem dL_law_404 : decode cL_law 404 = .ok (.aload_n 1, 1) := by decide +kernel
theorem dL_law_405 : decode cL_law 405 = .ok (.aload_n 0, 1) := by decide +kernel
theorem dL_law_406 : decode cL_law 406 = .ok (.iload_n 3, 1) := by decide +kernel
theorem dL_law_407 : decode cL_law 407 = .ok (.iconst 1, 1) := by decide +kernel
theorem dL_law_408 : decode cL_law 408 = .ok (.iadd, 1) := by decide +kernel
theorem dL_law_409 : decode cL_law 409 = .ok (.iaload, 1) := by decide +kernel
theorem dL_law_410 : decode cL_law 410 = .ok (.invokevirtual 56, 3) := by decide +kernel
theorem dL_law_413 : decode cL_law 413 = .ok (.aload_n 2, 1) := by decide +kernel
theorem dL_law_414 : decode cL_law 414 = .ok (.aload_n 0, 1) := by decide +kernel
theorem dL_law_415 : decode cL_law 415 = .ok (.iload_n 3, 1) := by decide +kernel
theorem dL_law_416 : decode cL_law 416 = .ok (.iconst 1, 1) := by decide +kernel
theorem dL_law_417 : decode cL_law 417 = .ok (.iadd, 1) := by decide +kernel
theorem dL_law_418 : decode cL_law 418 = .ok (.iaload, 1) := by decide +kernel
theorem dL_law_419 : decode cL_law 419 = .ok (.invokevirtual 59, 3) := by decide +kernel
theorem dL_law_422 : decode cL_law 422 = .ok (.if_icmp .eq 475, 3) := by decide +kernel
theorem dL_law_425 : decode cL_law 425 = .ok (.iconst 0, 1) := by decide +kernel
theorem dL_law_426 : decode cL_law 426 = .ok (.ireturn, 1) := by decide +kernel
theorem dL_law_427 : decode cL_law 427 = .ok (.aload_n 1, 1) := by decide +kernel
theorem dL_law_428 : decode cL_law 428 = .ok (.aload_n 0, 1) := by decide +kernel
theorem dL_law_429 : decode cL_law 429 = .ok (.iload_n 3, 1) := by decide +kernel
theorem dL_law_430 : decode cL_law 430 = .ok (.iconst 1, 1) := by decide +kernel
theorem dL_law_431 : decode cL_law 431 = .ok (.iadd, 1) := by decide +kernel
theorem dL_law_432 : decode cL_law 432 = .ok (.iaload, 1) := by decide +kernel
theorem dL_law_433 : decode cL_law 433 = .ok (.invokevirtual 60, 3) := by decide +kernel
theorem dL_law_436 : decode cL_law 436 = .ok (.aload_n 2, 1) := by decide +kernel
theorem dL_law_437 : decode cL_law 437 = .ok (.aload_n 0, 1) := by decide +kernel
theorem dL_law_438 : decode cL_law 438 = .ok (.iload_n 3, 1) := by decide +kernel
theorem dL_law_439 : decode cL_law 439 = .ok (.iconst 1, 1) := by decide +kernel
theorem dL_law_440 : decode cL_law 440 = .ok (.iadd, 1) := by decide +kernel
theorem dL_law_441 : decode cL_law 441 = .ok (.iaload, 1) := by decide +kernel
theorem dL_law_442 : decode cL_law 442 = .ok (.invokevirtual 63, 3) := by decide +kernel
theorem dL_law_445 : decode cL_law 445 = .ok (.if_icmp .eq 452, 3) := by decide +kernel
theorem dL_law_448 : decode cL_law 448 = .ok (.iconst 0, 1) := by decide +kernel
theorem dL_law_449 : decode cL_law 449 = .ok (.ireturn, 1) := by decide +kernel
theorem dL_law_450 : decode cL_law 450 = .ok (.aload_n 1, 1) := by decide +kernel
theorem dL_law_451 : decode cL_law 451 = .ok (.invokevirtual 64, 3) := by decide +kernel
theorem dL_law_454 : decode cL_law 454 = .ok (.aload_n 2, 1) := by decide +kernel
theorem dL_law_455 : decode cL_law 455 = .ok (.invokevirtual 67, 3) := by decide +kernel
theorem dL_law_458 : decode cL_law 458 = .ok (.if_icmp .eq 439, 3) := by decide +kernel
theorem dL_law_461 : decode cL_law 461 = .ok (.iconst 0, 1) := by decide +kernel
theorem dL_law_462 : decode cL_law 462 = .ok (.ireturn, 1) := by decide +kernel
theorem dL_law_463 : decode cL_law 463 = .ok (.aload_n 1, 1) := by decide +kernel
theorem dL_law_464 : decode cL_law 464 = .ok (.aload_n 0, 1) := by decide +kernel
theorem dL_law_465 : decode cL_law 465 = .ok (.iload_n 3, 1) := by decide +kernel
theorem dL_law_466 : decode cL_law 466 = .ok (.iconst 1, 1) := by decide +kernel
theorem dL_law_467 : decode cL_law 467 = .ok (.iadd, 1) := by decide +kernel
theorem dL_law_468 : decode cL_law 468 = .ok (.iaload, 1) := by decide +kernel
theorem dL_law_469 : decode cL_law 469 = .ok (.aload_n 0, 1) := by decide +kernel
theorem dL_law_470 : decode cL_law 470 = .ok (.iload_n 3, 1) := by decide +kernel
theorem dL_law_471 : decode cL_law 471 = .ok (.iconst 2, 1) := by decide +kernel
theorem dL_law_472 : decode cL_law 472 = .ok (.iadd, 1) := by decide +kernel
theorem dL_law_473 : decode cL_law 473 = .ok (.iaload, 1) := by decide +kernel
theorem dL_law_474 : decode cL_law 474 = .ok (.invokevirtual 68, 3) := by decide +kernel
theorem dL_law_477 : decode cL_law 477 = .ok (.aload_n 2, 1) := by decide +kernel
theorem dL_law_478 : decode cL_law 478 = .ok (.aload_n 0, 1) := by decide +kernel
theorem dL_law_479 : decode cL_law 479 = .ok (.iload_n 3, 1) := by decide +kernel
theorem dL_law_480 : decode cL_law 480 = .ok (.iconst 1, 1) := by decide +kernel
theorem dL_law_481 : decode cL_law 481 = .ok (.iadd, 1) := by decide +kernel
theorem dL_law_482 : decode cL_law 482 = .ok (.iaload, 1) := by decide +kernel
theorem dL_law_483 : decode cL_law 483 = .ok (.aload_n 0, 1) := by decide +kernel
theorem dL_law_484 : decode cL_law 484 = .ok (.iload_n 3, 1) := by decide +kernel
theorem dL_law_485 : decode cL_law 485 = .ok (.iconst 2, 1) := by decide +kernel
theorem dL_law_486 : decode cL_law 486 = .ok (.iadd, 1) := by decide +kernel
theorem dL_law_487 : decode cL_law 487 = .ok (.iaload, 1) := by decide +kernel
theorem dL_law_488 : decode cL_law 488 = .ok (.invokevirtual 71, 3) := by decide +kernel
theorem dL_law_491 : decode cL_law 491 = .ok (.if_icmp .eq 406, 3) := by decide +kernel
theorem dL_law_494 : decode cL_law 494 = .ok (.iconst 0, 1) := by decide +kernel
theorem dL_law_495 : decode cL_law 495 = .ok (.ireturn, 1) := by decide +kernel
theorem dL_law_496 : decode cL_law 496 = .ok (.aload_n 1, 1) := by decide +kernel
theorem dL_law_497 : decode cL_law 497 = .ok (.aload_n 0, 1) := by decide +kernel
theorem dL_law_498 : decode cL_law 498 = .ok (.iload_n 3, 1) := by decide +kernel
theorem dL_law_499 : decode cL_law 499 = .ok (.iconst 1, 1) := by decide +kernel
theorem dL_law_500 : decode cL_law 500 = .ok (.iadd, 1) := by decide +kernel
theorem dL_law_501 : decode cL_law 501 = .ok (.iaload, 1) := by decide +kernel
theorem dL_law_502 : decode cL_law 502 = .ok (.invokevirtual 72, 3) := by decide +kernel
theorem dL_law_505 : decode cL_law 505 = .ok (.aload_n 2, 1) := by decide +kernel
theorem dL_law_506 : decode cL_law 506 = .ok (.aload_n 0, 1) := by decide +kernel
theorem dL_law_507 : decode cL_law 507 = .ok (.iload_n 3, 1) := by decide +kernel
theorem dL_law_508 : decode cL_law 508 = .ok (.iconst 1, 1) := by decide +kernel
theorem dL_law_509 : decode cL_law 509 = .ok (.iadd, 1) := by decide +kernel
theorem dL_law_510 : decode cL_law 510 = .ok (.iaload, 1) := by decide +kernel
theorem dL_law_511 : decode cL_law 511 = .ok (.invokevirtual 75, 3) := by decide +kernel
theorem dL_law_514 : decode cL_law 514 = .ok (.if_icmp .eq 383, 3) := by decide +kernel
theorem dL_law_517 : decode cL_law 517 = .ok (.iconst 0, 1) := by decide +kernel
theorem dL_law_518 : decode cL_law 518 = .ok (.ireturn, 1) := by decide +kernel
theorem dL_law_519 : decode cL_law 519 = .ok (.aload_n 1, 1) := by decide +kernel
theorem dL_law_520 : decode cL_law 520 = .ok (.aload_n 0, 1) := by decide +kernel
theorem dL_law_521 : decode cL_law 521 = .ok (.iload_n 3, 1) := by decide +kernel
theorem dL_law_522 : decode cL_law 522 = .ok (.iconst 1, 1) := by decide +kernel
theorem dL_law_523 : decode cL_law 523 = .ok (.iadd, 1) := by decide +kernel
theorem dL_law_524 : decode cL_law 524 = .ok (.iaload, 1) := by decide +kernel
theorem dL_law_525 : decode cL_law 525 = .ok (.invokevirtual 76, 3) := by decide +kernel
theorem dL_law_528 : decode cL_law 528 = .ok (.aload_n 2, 1) := by decide +kernel
theorem dL_law_529 : decode cL_law 529 = .ok (.aload_n 0, 1) := by decide +kernel
theorem dL_law_530 : decode cL_law 530 = .ok (.iload_n 3, 1) := by decide +kernel
theorem dL_law_531 : decode cL_law 531 = .ok (.iconst 1, 1) := by decide +kernel
theorem dL_law_532 : decode cL_law 532 = .ok (.iadd, 1) := by decide +kernel
theorem dL_law_533 : decode cL_law 533 = .ok (.iaload, 1) := by decide +kernel
theorem dL_law_534 : decode cL_law 534 = .ok (.invokevirtual 79, 3) := by decide +kernel
theorem dL_law_537 : decode cL_law 537 = .ok (.if_icmp .eq 360, 3) := by decide +kernel
theorem dL_law_540 : decode cL_law 540 = .ok (.iconst 0, 1) := by decide +kernel
theorem dL_law_541 : decode cL_law 541 = .ok (.ireturn, 1) := by decide +kernel
theorem dL_law_542 : decode cL_law 542 = .ok (.aload_n 1, 1) := by decide +kernel
theorem dL_law_543 : decode cL_law 543 = .ok (.aload_n 0, 1) := by decide +kernel
theorem dL_law_544 : decode cL_law 544 = .ok (.iload_n 3, 1) := by decide +kernel
theorem dL_law_545 : decode cL_law 545 = .ok (.iconst 1, 1) := by decide +kernel
theorem dL_law_546 : decode cL_law 546 = .ok (.iadd, 1) := by decide +kernel
theorem dL_law_547 : decode cL_law 547 = .ok (.iaload, 1) := by decide +kernel
theorem dL_law_548 : decode cL_law 548 = .ok (.aload_n 0, 1) := by decide +kernel
theorem dL_law_549 : decode cL_law 549 = .ok (.iload_n 3, 1) := by decide +kernel
theorem dL_law_550 : decode cL_law 550 = .ok (.iconst 2, 1) := by decide +kernel
theorem dL_law_551 : decode cL_law 551 = .ok (.iadd, 1) := by decide +kernel
theorem dL_law_552 : decode cL_law 552 = .ok (.iaload, 1) := by decide +kernel
theorem dL_law_553 : decode cL_law 553 = .ok (.invokevirtual 80, 3) := by decide +kernel
theorem dL_law_556 : decode cL_law 556 = .ok (.aload_n 2, 1) := by decide +kernel
theorem dL_law_557 : decode cL_law 557 = .ok (.aload_n 0, 1) := by decide +kernel
theorem dL_law_558 : decode cL_law 558 = .ok (.iload_n 3, 1) := by decide +kernel
theorem dL_law_559 : decode cL_law 559 = .ok (.iconst 1, 1) := by decide +kernel
theorem dL_law_560 : decode cL_law 560 = .ok (.iadd, 1) := by decide +kernel
theorem dL_law_561 : decode cL_law 561 = .ok (.iaload, 1) := by decide +kernel
theorem dL_law_562 : decode cL_law 562 = .ok (.aload_n 0, 1) := by decide +kernel
theorem dL_law_563 : decode cL_law 563 = .ok (.iload_n 3, 1) := by decide +kernel
theorem dL_law_564 : decode cL_law 564 = .ok (.iconst 2, 1) := by decide +kernel
theorem dL_law_565 : decode cL_law 565 = .ok (.iadd, 1) := by decide +kernel
theorem dL_law_566 : decode cL_law 566 = .ok (.iaload, 1) := by decide +kernel
theorem dL_law_567 : decode cL_law 567 = .ok (.invokevirtual 83, 3) := by decide +kernel
theorem dL_law_570 : decode cL_law 570 = .ok (.if_icmp .eq 327, 3) := by decide +kernel
theorem dL_law_573 : decode cL_law 573 = .ok (.iconst 0, 1) := by decide +kernel
theorem dL_law_574 : decode cL_law 574 = .ok (.ireturn, 1) := by decide +kernel
theorem dL_law_575 : decode cL_law 575 = .ok (.aload_n 1, 1) := by decide +kernel
theorem dL_law_576 : decode cL_law 576 = .ok (.aload_n 0, 1) := by decide +kernel
theorem dL_law_577 : decode cL_law 577 = .ok (.iload_n 3, 1) := by decide +kernel
theorem dL_law_578 : decode cL_law 578 = .ok (.iconst 1, 1) := by decide +kernel
theorem dL_law_579 : decode cL_law 579 = .ok (.iadd, 1) := by decide +kernel
theorem dL_law_580 : decode cL_law 580 = .ok (.iaload, 1) := by decide +kernel
theorem dL_law_581 : decode cL_law 581 = .ok (.invokevirtual 84, 3) := by decide +kernel
theorem dL_law_584 : decode cL_law 584 = .ok (.aload_n 2, 1) := by decide +kernel
theorem dL_law_585 : decode cL_law 585 = .ok (.aload_n 0, 1) := by decide +kernel
theorem dL_law_586 : decode cL_law 586 = .ok (.iload_n 3, 1) := by decide +kernel
theorem dL_law_587 : decode cL_law 587 = .ok (.iconst 1, 1) := by decide +kernel
theorem dL_law_588 : decode cL_law 588 = .ok (.iadd, 1) := by decide +kernel
theorem dL_law_589 : decode cL_law 589 = .ok (.iaload, 1) := by decide +kernel
theorem dL_law_590 : decode cL_law 590 = .ok (.invokevirtual 87, 3) := by decide +kernel
theorem dL_law_593 : decode cL_law 593 = .ok (.if_icmp .eq 304, 3) := by decide +kernel
theorem dL_law_596 : decode cL_law 596 = .ok (.iconst 0, 1) := by decide +kernel
theorem dL_law_597 : decode cL_law 597 = .ok (.ireturn, 1) := by decide +kernel
theorem dL_law_598 : decode cL_law 598 = .ok (.aload_n 1, 1) := by decide +kernel
theorem dL_law_599 : decode cL_law 599 = .ok (.aload_n 0, 1) := by decide +kernel
theorem dL_law_600 : decode cL_law 600 = .ok (.iload_n 3, 1) := by decide +kernel
theorem dL_law_601 : decode cL_law 601 = .ok (.iconst 1, 1) := by decide +kernel
theorem dL_law_602 : decode cL_law 602 = .ok (.iadd, 1) := by decide +kernel
theorem dL_law_603 : decode cL_law 603 = .ok (.iaload, 1) := by decide +kernel
theorem dL_law_604 : decode cL_law 604 = .ok (.aload_n 0, 1) := by decide +kernel
theorem dL_law_605 : decode cL_law 605 = .ok (.iload_n 3, 1) := by decide +kernel
theorem dL_law_606 : decode cL_law 606 = .ok (.iconst 2, 1) := by decide +kernel
theorem dL_law_607 : decode cL_law 607 = .ok (.iadd, 1) := by decide +kernel
theorem dL_law_608 : decode cL_law 608 = .ok (.iaload, 1) := by decide +kernel
theorem dL_law_609 : decode cL_law 609 = .ok (.aload_n 0, 1) := by decide +kernel
theorem dL_law_610 : decode cL_law 610 = .ok (.iload_n 3, 1) := by decide +kernel
theorem dL_law_611 : decode cL_law 611 = .ok (.iconst 3, 1) := by decide +kernel
theorem dL_law_612 : decode cL_law 612 = .ok (.iadd, 1) := by decide +kernel
theorem dL_law_613 : decode cL_law 613 = .ok (.iaload, 1) := by decide +kernel
theorem dL_law_614 : decode cL_law 614 = .ok (.invokevirtual 88, 3) := by decide +kernel
theorem dL_law_617 : decode cL_law 617 = .ok (.aload_n 2, 1) := by decide +kernel
theorem dL_law_618 : decode cL_law 618 = .ok (.aload_n 0, 1) := by decide +kernel
theorem dL_law_619 : decode cL_law 619 = .ok (.iload_n 3, 1) := by decide +kernel
theorem dL_law_620 : decode cL_law 620 = .ok (.iconst 1, 1) := by decide +kernel
theorem dL_law_621 : decode cL_law 621 = .ok (.iadd, 1) := by decide +kernel
theorem dL_law_622 : decode cL_law 622 = .ok (.iaload, 1) := by decide +kernel
theorem dL_law_623 : decode cL_law 623 = .ok (.aload_n 0, 1) := by decide +kernel
theorem dL_law_624 : decode cL_law 624 = .ok (.iload_n 3, 1) := by decide +kernel
theorem dL_law_625 : decode cL_law 625 = .ok (.iconst 2, 1) := by decide +kernel
theorem dL_law_626 : decode cL_law 626 = .ok (.iadd, 1) := by decide +kernel
theorem dL_law_627 : decode cL_law 627 = .ok (.iaload, 1) := by decide +kernel
theorem dL_law_628 : decode cL_law 628 = .ok (.aload_n 0, 1) := by decide +kernel
theorem dL_law_629 : decode cL_law 629 = .ok (.iload_n 3, 1) := by decide +kernel
theorem dL_law_630 : decode cL_law 630 = .ok (.iconst 3, 1) := by decide +kernel
theorem dL_law_631 : decode cL_law 631 = .ok (.iadd, 1) := by decide +kernel
theorem dL_law_632 : decode cL_law 632 = .ok (.iaload, 1) := by decide +kernel
theorem dL_law_633 : decode cL_law 633 = .ok (.invokevirtual 92, 3) := by decide +kernel
theorem dL_law_636 : decode cL_law 636 = .ok (.if_icmp .eq 261, 3) := by decide +kernel
theorem dL_law_639 : decode cL_law 639 = .ok (.iconst 0, 1) := by decide +kernel
theorem dL_law_640 : decode cL_law 640 = .ok (.ireturn, 1) := by decide +kernel
theorem dL_law_641 : decode cL_law 641 = .ok (.aload_n 1, 1) := by decide +kernel
theorem dL_law_642 : decode cL_law 642 = .ok (.aload_n 0, 1) := by decide +kernel
theorem dL_law_643 : decode cL_law 643 = .ok (.iload_n 3, 1) := by decide +kernel
theorem dL_law_644 : decode cL_law 644 = .ok (.iconst 1, 1) := by decide +kernel
theorem dL_law_645 : decode cL_law 645 = .ok (.iadd, 1) := by decide +kernel
theorem dL_law_646 : decode cL_law 646 = .ok (.iaload, 1) := by decide +kernel
theorem dL_law_647 : decode cL_law 647 = .ok (.invokevirtual 93, 3) := by decide +kernel
theorem dL_law_650 : decode cL_law 650 = .ok (.aload_n 2, 1) := by decide +kernel
theorem dL_law_651 : decode cL_law 651 = .ok (.aload_n 0, 1) := by decide +kernel
theorem dL_law_652 : decode cL_law 652 = .ok (.iload_n 3, 1) := by decide +kernel
theorem dL_law_653 : decode cL_law 653 = .ok (.iconst 1, 1) := by decide +kernel
theorem dL_law_654 : decode cL_law 654 = .ok (.iadd, 1) := by decide +kernel
theorem dL_law_655 : decode cL_law 655 = .ok (.iaload, 1) := by decide +kernel
theorem dL_law_656 : decode cL_law 656 = .ok (.invokevirtual 96, 3) := by decide +kernel
theorem dL_law_659 : decode cL_law 659 = .ok (.if_icmp .eq 238, 3) := by decide +kernel
theorem dL_law_662 : decode cL_law 662 = .ok (.iconst 0, 1) := by decide +kernel
theorem dL_law_663 : decode cL_law 663 = .ok (.ireturn, 1) := by decide +kernel
theorem dL_law_664 : decode cL_law 664 = .ok (.aload_n 1, 1) := by decide +kernel
theorem dL_law_665 : decode cL_law 665 = .ok (.aload_n 0, 1) := by decide +kernel
theorem dL_law_666 : decode cL_law 666 = .ok (.iload_n 3, 1) := by decide +kernel
theorem dL_law_667 : decode cL_law 667 = .ok (.iconst 1, 1) := by decide +kernel
theorem dL_law_668 : decode cL_law 668 = .ok (.iadd, 1) := by decide +kernel
theorem dL_law_669 : decode cL_law 669 = .ok (.iaload, 1) := by decide +kernel
theorem dL_law_670 : decode cL_law 670 = .ok (.invokevirtual 97, 3) := by decide +kernel
theorem dL_law_673 : decode cL_law 673 = .ok (.aload_n 2, 1) := by decide +kernel
theorem dL_law_674 : decode cL_law 674 = .ok (.aload_n 0, 1) := by decide +kernel
theorem dL_law_675 : decode cL_law 675 = .ok (.iload_n 3, 1) := by decide +kernel
theorem dL_law_676 : decode cL_law 676 = .ok (.iconst 1, 1) := by decide +kernel
theorem dL_law_677 : decode cL_law 677 = .ok (.iadd, 1) := by decide +kernel
theorem dL_law_678 : decode cL_law 678 = .ok (.iaload, 1) := by decide +kernel
theorem dL_law_679 : decode cL_law 679 = .ok (.invokevirtual 100, 3) := by decide +kernel
theorem dL_law_682 : decode cL_law 682 = .ok (.if_icmp .eq 215, 3) := by decide +kernel
theorem dL_law_685 : decode cL_law 685 = .ok (.iconst 0, 1) := by decide +kernel
theorem dL_law_686 : decode cL_law 686 = .ok (.ireturn, 1) := by decide +kernel
theorem dL_law_687 : decode cL_law 687 = .ok (.aload_n 1, 1) := by decide +kernel
theorem dL_law_688 : decode cL_law 688 = .ok (.aload_n 0, 1) := by decide +kernel
theorem dL_law_689 : decode cL_law 689 = .ok (.iload_n 3, 1) := by decide +kernel
theorem dL_law_690 : decode cL_law 690 = .ok (.iconst 1, 1) := by decide +kernel
theorem dL_law_691 : decode cL_law 691 = .ok (.iadd, 1) := by decide +kernel
theorem dL_law_692 : decode cL_law 692 = .ok (.iaload, 1) := by decide +kernel
theorem dL_law_693 : decode cL_law 693 = .ok (.aload_n 0, 1) := by decide +kernel
theorem dL_law_694 : decode cL_law 694 = .ok (.iload_n 3, 1) := by decide +kernel
theorem dL_law_695 : decode cL_law 695 = .ok (.iconst 2, 1) := by decide +kernel
theorem dL_law_696 : decode cL_law 696 = .ok (.iadd, 1) := by decide +kernel
theorem dL_law_697 : decode cL_law 697 = .ok (.iaload, 1) := by decide +kernel
theorem dL_law_698 : decode cL_law 698 = .ok (.invokevirtual 101, 3) := by decide +kernel
theorem dL_law_701 : decode cL_law 701 = .ok (.aload_n 2, 1) := by decide +kernel
theorem dL_law_702 : decode cL_law 702 = .ok (.aload_n 0, 1) := by decide +kernel
theorem dL_law_703 : decode cL_law 703 = .ok (.iload_n 3, 1) := by decide +kernel
theorem dL_law_704 : decode cL_law 704 = .ok (.iconst 1, 1) := by decide +kernel
theorem dL_law_705 : decode cL_law 705 = .ok (.iadd, 1) := by decide +kernel
theorem dL_law_706 : decode cL_law 706 = .ok (.iaload, 1) := by decide +kernel
theorem dL_law_707 : decode cL_law 707 = .ok (.aload_n 0, 1) := by decide +kernel
theorem dL_law_708 : decode cL_law 708 = .ok (.iload_n 3, 1) := by decide +kernel
theorem dL_law_709 : decode cL_law 709 = .ok (.iconst 2, 1) := by decide +kernel
theorem dL_law_710 : decode cL_law 710 = .ok (.iadd, 1) := by decide +kernel
theorem dL_law_711 : decode cL_law 711 = .ok (.iaload, 1) := by decide +kernel
theorem dL_law_712 : decode cL_law 712 = .ok (.invokevirtual 104, 3) := by decide +kernel
theorem dL_law_715 : decode cL_law 715 = .ok (.if_icmp .eq 182, 3) := by decide +kernel
theorem dL_law_718 : decode cL_law 718 = .ok (.iconst 0, 1) := by decide +kernel
theorem dL_law_719 : decode cL_law 719 = .ok (.ireturn, 1) := by decide +kernel
theorem dL_law_720 : decode cL_law 720 = .ok (.aload_n 1, 1) := by decide +kernel
theorem dL_law_721 : decode cL_law 721 = .ok (.aload_n 0, 1) := by decide +kernel
theorem dL_law_722 : decode cL_law 722 = .ok (.iload_n 3, 1) := by decide +kernel
theorem dL_law_723 : decode cL_law 723 = .ok (.iconst 1, 1) := by decide +kernel
theorem dL_law_724 : decode cL_law 724 = .ok (.iadd, 1) := by decide +kernel
theorem dL_law_725 : decode cL_law 725 = .ok (.iaload, 1) := by decide +kernel
theorem dL_law_726 : decode cL_law 726 = .ok (.invokevirtual 105, 3) := by decide +kernel
theorem dL_law_729 : decode cL_law 729 = .ok (.aload_n 2, 1) := by decide +kernel
theorem dL_law_730 : decode cL_law 730 = .ok (.aload_n 0, 1) := by decide +kernel
theorem dL_law_731 : decode cL_law 731 = .ok (.iload_n 3, 1) := by decide +kernel
theorem dL_law_732 : decode cL_law 732 = .ok (.iconst 1, 1) := by decide +kernel
theorem dL_law_733 : decode cL_law 733 = .ok (.iadd, 1) := by decide +kernel
theorem dL_law_734 : decode cL_law 734 = .ok (.iaload, 1) := by decide +kernel
theorem dL_law_735 : decode cL_law 735 = .ok (.invokevirtual 108, 3) := by decide +kernel
theorem dL_law_738 : decode cL_law 738 = .ok (.if_icmp .eq 159, 3) := by decide +kernel
theorem dL_law_741 : decode cL_law 741 = .ok (.iconst 0, 1) := by decide +kernel
theorem dL_law_742 : decode cL_law 742 = .ok (.ireturn, 1) := by decide +kernel
theorem dL_law_743 : decode cL_law 743 = .ok (.aload_n 1, 1) := by decide +kernel
theorem dL_law_744 : decode cL_law 744 = .ok (.aload_n 0, 1) := by decide +kernel
theorem dL_law_745 : decode cL_law 745 = .ok (.iload_n 3, 1) := by decide +kernel
theorem dL_law_746 : decode cL_law 746 = .ok (.iconst 1, 1) := by decide +kernel
theorem dL_law_747 : decode cL_law 747 = .ok (.iadd, 1) := by decide +kernel
theorem dL_law_748 : decode cL_law 748 = .ok (.iaload, 1) := by decide +kernel
theorem dL_law_749 : decode cL_law 749 = .ok (.aload_n 0, 1) := by decide +kernel
theorem dL_law_750 : decode cL_law 750 = .ok (.iload_n 3, 1) := by decide +kernel
theorem dL_law_751 : decode cL_law 751 = .ok (.iconst 2, 1) := by decide +kernel
theorem dL_law_752 : decode cL_law 752 = .ok (.iadd, 1) := by decide +kernel
theorem dL_law_753 : decode cL_law 753 = .ok (.iaload, 1) := by decide +kernel
theorem dL_law_754 : decode cL_law 754 = .ok (.aload_n 0, 1) := by decide +kernel
theorem dL_law_755 : decode cL_law 755 = .ok (.iload_n 3, 1) := by decide +kernel
theorem dL_law_756 : decode cL_law 756 = .ok (.iconst 3, 1) := by decide +kernel
theorem dL_law_757 : decode cL_law 757 = .ok (.iadd, 1) := by decide +kernel
theorem dL_law_758 : decode cL_law 758 = .ok (.iaload, 1) := by decide +kernel
theorem dL_law_759 : decode cL_law 759 = .ok (.ifCond .eq 7, 3) := by decide +kernel
theorem dL_law_762 : decode cL_law 762 = .ok (.iconst 1, 1) := by decide +kernel
theorem dL_law_763 : decode cL_law 763 = .ok (.goto 4, 3) := by decide +kernel
theorem dL_law_766 : decode cL_law 766 = .ok (.iconst 0, 1) := by decide +kernel
theorem dL_law_767 : decode cL_law 767 = .ok (.invokevirtual 109, 3) := by decide +kernel
theorem dL_law_770 : decode cL_law 770 = .ok (.aload_n 2, 1) := by decide +kernel
theorem dL_law_771 : decode cL_law 771 = .ok (.aload_n 0, 1) := by decide +kernel
theorem dL_law_772 : decode cL_law 772 = .ok (.iload_n 3, 1) := by decide +kernel
theorem dL_law_773 : decode cL_law 773 = .ok (.iconst 1, 1) := by decide +kernel
theorem dL_law_774 : decode cL_law 774 = .ok (.iadd, 1) := by decide +kernel
theorem dL_law_775 : decode cL_law 775 = .ok (.iaload, 1) := by decide +kernel
theorem dL_law_776 : decode cL_law 776 = .ok (.aload_n 0, 1) := by decide +kernel
theorem dL_law_777 : decode cL_law 777 = .ok (.iload_n 3, 1) := by decide +kernel
theorem dL_law_778 : decode cL_law 778 = .ok (.iconst 2, 1) := by decide +kernel
theorem dL_law_779 : decode cL_law 779 = .ok (.iadd, 1) := by decide +kernel
theorem dL_law_780 : decode cL_law 780 = .ok (.iaload, 1) := by decide +kernel
theorem dL_law_781 : decode cL_law 781 = .ok (.aload_n 0, 1) := by decide +kernel
theorem dL_law_782 : decode cL_law 782 = .ok (.iload_n 3, 1) := by decide +kernel
theorem dL_law_783 : decode cL_law 783 = .ok (.iconst 3, 1) := by decide +kernel
theorem dL_law_784 : decode cL_law 784 = .ok (.iadd, 1) := by decide +kernel
theorem dL_law_785 : decode cL_law 785 = .ok (.iaload, 1) := by decide +kernel
theorem dL_law_786 : decode cL_law 786 = .ok (.ifCond .eq 7, 3) := by decide +kernel
theorem dL_law_789 : decode cL_law 789 = .ok (.iconst 1, 1) := by decide +kernel
theorem dL_law_790 : decode cL_law 790 = .ok (.goto 4, 3) := by decide +kernel
theorem dL_law_793 : decode cL_law 793 = .ok (.iconst 0, 1) := by decide +kernel
theorem dL_law_794 : decode cL_law 794 = .ok (.invokevirtual 113, 3) := by decide +kernel
theorem dL_law_797 : decode cL_law 797 = .ok (.if_icmp .eq 100, 3) := by decide +kernel
theorem dL_law_800 : decode cL_law 800 = .ok (.iconst 0, 1) := by decide +kernel
theorem dL_law_801 : decode cL_law 801 = .ok (.ireturn, 1) := by decide +kernel
theorem dL_law_802 : decode cL_law 802 = .ok (.aload_n 1, 1) := by decide +kernel
theorem dL_law_803 : decode cL_law 803 = .ok (.invokevirtual 114, 3) := by decide +kernel
theorem dL_law_806 : decode cL_law 806 = .ok (.aload_n 2, 1) := by decide +kernel
theorem dL_law_807 : decode cL_law 807 = .ok (.invokevirtual 117, 3) := by decide +kernel
theorem dL_law_810 : decode cL_law 810 = .ok (.if_icmp .eq 87, 3) := by decide +kernel
theorem dL_law_813 : decode cL_law 813 = .ok (.iconst 0, 1) := by decide +kernel
theorem dL_law_814 : decode cL_law 814 = .ok (.ireturn, 1) := by decide +kernel
theorem dL_law_815 : decode cL_law 815 = .ok (.aload_n 1, 1) := by decide +kernel
theorem dL_law_816 : decode cL_law 816 = .ok (.invokevirtual 118, 3) := by decide +kernel
theorem dL_law_819 : decode cL_law 819 = .ok (.aload_n 2, 1) := by decide +kernel
theorem dL_law_820 : decode cL_law 820 = .ok (.invokevirtual 121, 3) := by decide +kernel
theorem dL_law_823 : decode cL_law 823 = .ok (.if_icmp .eq 74, 3) := by decide +kernel
theorem dL_law_826 : decode cL_law 826 = .ok (.iconst 0, 1) := by decide +kernel
theorem dL_law_827 : decode cL_law 827 = .ok (.ireturn, 1) := by decide +kernel
theorem dL_law_828 : decode cL_law 828 = .ok (.aload_n 1, 1) := by decide +kernel
theorem dL_law_829 : decode cL_law 829 = .ok (.aload_n 0, 1) := by decide +kernel
theorem dL_law_830 : decode cL_law 830 = .ok (.iload_n 3, 1) := by decide +kernel
theorem dL_law_831 : decode cL_law 831 = .ok (.iconst 1, 1) := by decide +kernel
theorem dL_law_832 : decode cL_law 832 = .ok (.iadd, 1) := by decide +kernel
theorem dL_law_833 : decode cL_law 833 = .ok (.iaload, 1) := by decide +kernel
theorem dL_law_834 : decode cL_law 834 = .ok (.invokevirtual 122, 3) := by decide +kernel
theorem dL_law_837 : decode cL_law 837 = .ok (.aload_n 2, 1) := by decide +kernel
theorem dL_law_838 : decode cL_law 838 = .ok (.aload_n 0, 1) := by decide +kernel
theorem dL_law_839 : decode cL_law 839 = .ok (.iload_n 3, 1) := by decide +kernel
theorem dL_law_840 : decode cL_law 840 = .ok (.iconst 1, 1) := by decide +kernel
theorem dL_law_841 : decode cL_law 841 = .ok (.iadd, 1) := by decide +kernel
theorem dL_law_842 : decode cL_law 842 = .ok (.iaload, 1) := by decide +kernel
theorem dL_law_843 : decode cL_law 843 = .ok (.invokevirtual 125, 3) := by decide +kernel
theorem dL_law_846 : decode cL_law 846 = .ok (.if_icmp .eq 51, 3) := by decide +kernel
theorem dL_law_849 : decode cL_law 849 = .ok (.iconst 0, 1) := by decide +kernel
theorem dL_law_850 : decode cL_law 850 = .ok (.ireturn, 1) := by decide +kernel
theorem dL_law_851 : decode cL_law 851 = .ok (.aload_n 1, 1) := by decide +kernel
theorem dL_law_852 : decode cL_law 852 = .ok (.aload_n 0, 1) := by decide +kernel
theorem dL_law_853 : decode cL_law 853 = .ok (.iload_n 3, 1) := by decide +kernel
theorem dL_law_854 : decode cL_law 854 = .ok (.iconst 1, 1) := by decide +kernel
theorem dL_law_855 : decode cL_law 855 = .ok (.iadd, 1) := by decide +kernel
theorem dL_law_856 : decode cL_law 856 = .ok (.iaload, 1) := by decide +kernel
theorem dL_law_857 : decode cL_law 857 = .ok (.invokevirtual 126, 3) := by decide +kernel
theorem dL_law_860 : decode cL_law 860 = .ok (.aload_n 2, 1) := by decide +kernel
theorem dL_law_861 : decode cL_law 861 = .ok (.aload_n 0, 1) := by decide +kernel
theorem dL_law_862 : decode cL_law 862 = .ok (.iload_n 3, 1) := by decide +kernel
theorem dL_law_863 : decode cL_law 863 = .ok (.iconst 1, 1) := by decide +kernel
theorem dL_law_864 : decode cL_law 864 = .ok (.iadd, 1) := by decide +kernel
theorem dL_law_865 : decode cL_law 865 = .ok (.iaload, 1) := by decide +kernel
theorem dL_law_866 : decode cL_law 866 = .ok (.invokevirtual 129, 3) := by decide +kernel
theorem dL_law_869 : decode cL_law 869 = .ok (.if_icmp .eq 28, 3) := by decide +kernel
theorem dL_law_872 : decode cL_law 872 = .ok (.iconst 0, 1) := by decide +kernel
theorem dL_law_873 : decode cL_law 873 = .ok (.ireturn, 1) := by decide +kernel
theorem dL_law_874 : decode cL_law 874 = .ok (.aload_n 1, 1) := by decide +kernel
theorem dL_law_875 : decode cL_law 875 = .ok (.aload_n 0, 1) := by decide +kernel
theorem dL_law_876 : decode cL_law 876 = .ok (.iload_n 3, 1) := by decide +kernel
theorem dL_law_877 : decode cL_law 877 = .ok (.iconst 1, 1) := by decide +kernel
theorem dL_law_878 : decode cL_law 878 = .ok (.iadd, 1) := by decide +kernel
theorem dL_law_879 : decode cL_law 879 = .ok (.iaload, 1) := by decide +kernel
theorem dL_law_880 : decode cL_law 880 = .ok (.invokevirtual 130, 3) := by decide +kernel
theorem dL_law_883 : decode cL_law 883 = .ok (.aload_n 2, 1) := by decide +kernel
theorem dL_law_884 : decode cL_law 884 = .ok (.aload_n 0, 1) := by decide +kernel
theorem dL_law_885 : decode cL_law 885 = .ok (.iload_n 3, 1) := by decide +kernel
theorem dL_law_886 : decode cL_law 886 = .ok (.iconst 1, 1) := by decide +kernel
theorem dL_law_887 : decode cL_law 887 = .ok (.iadd, 1) := by decide +kernel
theorem dL_law_888 : decode cL_law 888 = .ok (.iaload, 1) := by decide +kernel
theorem dL_law_889 : decode cL_law 889 = .ok (.invokevirtual 133, 3) := by decide +kernel
theorem dL_law_892 : decode cL_law 892 = .ok (.if_icmp .eq 5, 3) := by decide +kernel
theorem dL_law_895 : decode cL_law 895 = .ok (.iconst 0, 1) := by decide +kernel
theorem dL_law_896 : decode cL_law 896 = .ok (.ireturn, 1) := by decide +kernel
theorem dL_law_897 : decode cL_law 897 = .ok (.iinc 3 4, 3) := by decide +kernel
theorem dL_law_900 : decode cL_law 900 = .ok (.goto (-882), 3) := by decide +kernel
theorem dL_law_903 : decode cL_law 903 = .ok (.iconst 1, 1) := by decide +kernel
theorem dL_law_904 : decode cL_law 904 = .ok (.ireturn, 1) := by decide +kernel
end
section
theorem wcl_L_7 : Cond.classLink RL 7 RX9 ∈ qW := qW_mem (i := 71) (by decide +kernel) (by decide +kernel)
theorem wis_X9 : Cond.instantiable RX9 16 ∈ qW := qW_mem (i := 72) (by decide +kernel) (by decide +kernel)
theorem win_X9 : Cond.initialized RX9 ∈ qW := qW_mem (i := 58) (by decide +kernel) (by decide +kernel)
theorem wcl_L_10 : Cond.classLink RL 10 RX10 ∈ qW := qW_mem (i := 770) (by decide +kernel) (by decide +kernel)
theorem wis_X10 : Cond.instantiable RX10 42 ∈ qW := qW_mem (i := 771) (by decide +kernel) (by decide +kernel)
theorem win_X10 : Cond.initialized RX10 ∈ qW := qW_mem (i := 67) (by decide +kernel) (by decide +kernel)
theorem wml_L_9 : Cond.methodLink RL 9 yX9_init ∈ qW := qW_mem (i := 73) (by decide +kernel) (by decide +kernel)
theorem wim_X9_init : Cond.instanceMethod yX9_init ∈ qW := qW_mem (i := 74) (by decide +kernel) (by decide +kernel)
theorem wco_X9_init : Cond.code yX9_init cX9_init 2 none ∈ qW := qW_mem (i := 75) (by decide +kernel) (by decide +kernel)
theorem wml_X9_1 : Cond.methodLink RX9 1 objectInit ∈ qW := qW_mem (i := 76) (by decide +kernel) (by decide +kernel)
theorem wim_objInit : Cond.instanceMethod objectInit ∈ qW := qW_mem (i := 77) (by decide +kernel) (by decide +kernel)
theorem wco_objInit : Cond.code objectInit ⟨#[0xb1]⟩ 1 none ∈ qW := qW_mem (i := 78) (by decide +kernel) (by decide +kernel)
theorem wac_int : Cond.arrayClass .int ∈ qW := qW_mem (i := 143) (by decide +kernel) (by decide +kernel)
theorem wfl_X9_9 : Cond.fieldLink RX9 9 "FireworkDeeds" "text" "[I" ∈ qW := qW_mem (i := 309) (by decide +kernel) (by decide +kernel)
theorem wfl_X9_13 : Cond.fieldLink RX9 13 "FireworkDeeds" "letters" "I" ∈ qW := qW_mem (i := 310) (by decide +kernel) (by decide +kernel)
theorem wfl_X9_17 : Cond.fieldLink RX9 17 "FireworkDeeds" "faultAt" "I" ∈ qW := qW_mem (i := 311) (by decide +kernel) (by decide +kernel)
theorem wcl_X9_20 : Cond.classLink RX9 20 RX0 ∈ qW := qW_mem (i := 79) (by decide +kernel) (by decide +kernel)
theorem wis_X0 : Cond.instantiable RX0 10 ∈ qW := qW_mem (i := 80) (by decide +kernel) (by decide +kernel)
theorem win_X0 : Cond.initialized RX0 ∈ qW := qW_mem (i := 59) (by decide +kernel) (by decide +kernel)
theorem wfl_X9_23 : Cond.fieldLink RX9 23 "FireworkDeeds" "shore" "LFireworkDeeds$Bay;" ∈ qW := qW_mem (i := 312) (by decide +kernel) (by decide +kernel)
theorem wfl_X9_27 : Cond.fieldLink RX9 27 "FireworkDeeds" "spare" "LFireworkDeeds$Bay;" ∈ qW := qW_mem (i := 313) (by decide +kernel) (by decide +kernel)
theorem wfl_X9_30 : Cond.fieldLink RX9 30 "FireworkDeeds" "seed" "I" ∈ qW := qW_mem (i := 314) (by decide +kernel) (by decide +kernel)
theorem wcl_X9_33 : Cond.classLink RX9 33 RX6 ∈ qW := qW_mem (i := 144) (by decide +kernel) (by decide +kernel)
theorem wis_X6 : Cond.instantiable RX6 8 ∈ qW := qW_mem (i := 145) (by decide +kernel) (by decide +kernel)
theorem win_X6 : Cond.initialized RX6 ∈ qW := qW_mem (i := 60) (by decide +kernel) (by decide +kernel)
theorem wfl_X9_36 : Cond.fieldLink RX9 36 "FireworkDeeds" "reader" "LFireworkDeeds$Reader;" ∈ qW := qW_mem (i := 315) (by decide +kernel) (by decide +kernel)
theorem wcl_X9_40 : Cond.classLink RX9 40 RX3 ∈ qW := qW_mem (i := 176) (by decide +kernel) (by decide +kernel)
theorem wis_X3 : Cond.instantiable RX3 8 ∈ qW := qW_mem (i := 177) (by decide +kernel) (by decide +kernel)
theorem win_X3 : Cond.initialized RX3 ∈ qW := qW_mem (i := 61) (by decide +kernel) (by decide +kernel)
theorem wfl_X9_43 : Cond.fieldLink RX9 43 "FireworkDeeds" "now" "LFireworkDeeds$Night;" ∈ qW := qW_mem (i := 316) (by decide +kernel) (by decide +kernel)
theorem wcl_X9_51 : Cond.classLink RX9 51 RX5 ∈ qW := qW_mem (i := 220) (by decide +kernel) (by decide +kernel)
theorem wis_X5 : Cond.instantiable RX5 3 ∈ qW := qW_mem (i := 221) (by decide +kernel) (by decide +kernel)
theorem win_X5 : Cond.initialized RX5 ∈ qW := qW_mem (i := 62) (by decide +kernel) (by decide +kernel)
theorem wfl_X9_54 : Cond.fieldLink RX9 54 "FireworkDeeds" "past" "LFireworkDeeds$Past;" ∈ qW := qW_mem (i := 317) (by decide +kernel) (by decide +kernel)
theorem wfl_X9_58 : Cond.fieldLink RX9 58 "FireworkDeeds" "images" "[LFireworkDeeds$Night;" ∈ qW := qW_mem (i := 318) (by decide +kernel) (by decide +kernel)
theorem wac_boolean : Cond.arrayClass .boolean ∈ qW := qW_mem (i := 256) (by decide +kernel) (by decide +kernel)
theorem wfl_X9_62 : Cond.fieldLink RX9 62 "FireworkDeeds" "imageKept" "[Z" ∈ qW := qW_mem (i := 319) (by decide +kernel) (by decide +kernel)
theorem wfl_X9_66 : Cond.fieldLink RX9 66 "FireworkDeeds" "imageSeed" "[I" ∈ qW := qW_mem (i := 320) (by decide +kernel) (by decide +kernel)
theorem wcl_X9_69 : Cond.classLink RX9 69 RX7 ∈ qW := qW_mem (i := 240) (by decide +kernel) (by decide +kernel)
theorem wis_X7 : Cond.instantiable RX7 2 ∈ qW := qW_mem (i := 241) (by decide +kernel) (by decide +kernel)
theorem win_X7 : Cond.initialized RX7 ∈ qW := qW_mem (i := 63) (by decide +kernel) (by decide +kernel)
theorem wfl_X9_72 : Cond.fieldLink RX9 72 "FireworkDeeds" "row" "LFireworkDeeds$Row;" ∈ qW := qW_mem (i := 321) (by decide +kernel) (by decide +kernel)
theorem wcl_X9_76 : Cond.classLink RX9 76 RX4 ∈ qW := qW_mem (i := 257) (by decide +kernel) (by decide +kernel)
theorem wis_X4 : Cond.instantiable RX4 2 ∈ qW := qW_mem (i := 258) (by decide +kernel) (by decide +kernel)
theorem win_X4 : Cond.initialized RX4 ∈ qW := qW_mem (i := 64) (by decide +kernel) (by decide +kernel)
theorem wfl_X9_79 : Cond.fieldLink RX9 79 "FireworkDeeds" "offers" "LFireworkDeeds$Offers;" ∈ qW := qW_mem (i := 322) (by decide +kernel) (by decide +kernel)
theorem wcl_X9_83 : Cond.classLink RX9 83 RX2 ∈ qW := qW_mem (i := 271) (by decide +kernel) (by decide +kernel)
theorem wis_X2 : Cond.instantiable RX2 3 ∈ qW := qW_mem (i := 272) (by decide +kernel) (by decide +kernel)
theorem win_X2 : Cond.initialized RX2 ∈ qW := qW_mem (i := 65) (by decide +kernel) (by decide +kernel)
theorem wfl_X9_86 : Cond.fieldLink RX9 86 "FireworkDeeds" "ducks" "LFireworkDeeds$Ducks;" ∈ qW := qW_mem (i := 323) (by decide +kernel) (by decide +kernel)
theorem wcl_X9_90 : Cond.classLink RX9 90 RX1 ∈ qW := qW_mem (i := 289) (by decide +kernel) (by decide +kernel)
theorem wis_X1 : Cond.instantiable RX1 4 ∈ qW := qW_mem (i := 290) (by decide +kernel) (by decide +kernel)
theorem win_X1 : Cond.initialized RX1 ∈ qW := qW_mem (i := 66) (by decide +kernel) (by decide +kernel)
theorem wfl_X9_93 : Cond.fieldLink RX9 93 "FireworkDeeds" "book" "LFireworkDeeds$Book;" ∈ qW := qW_mem (i := 324) (by decide +kernel) (by decide +kernel)
theorem wml_X9_22 : Cond.methodLink RX9 22 yX0_init ∈ qW := qW_mem (i := 81) (by decide +kernel) (by decide +kernel)
theorem wim_X0_init : Cond.instanceMethod yX0_init ∈ qW := qW_mem (i := 82) (by decide +kernel) (by decide +kernel)
theorem wco_X0_init : Cond.code yX0_init cX0_init 1 none ∈ qW := qW_mem (i := 83) (by decide +kernel) (by decide +kernel)
theorem wml_X0_3 : Cond.methodLink RX0 3 objectInit ∈ qW := qW_mem (i := 84) (by decide +kernel) (by decide +kernel)
theorem wfl_X0_9 : Cond.fieldLink RX0 9 "FireworkDeeds$Bay" "cell" "[I" ∈ qW := qW_mem (i := 112) (by decide +kernel) (by decide +kernel)
theorem wfl_X0_15 : Cond.fieldLink RX0 15 "FireworkDeeds$Bay" "powder" "[I" ∈ qW := qW_mem (i := 115) (by decide +kernel) (by decide +kernel)
theorem wfl_X0_18 : Cond.fieldLink RX0 18 "FireworkDeeds$Bay" "firstRockets" "[I" ∈ qW := qW_mem (i := 118) (by decide +kernel) (by decide +kernel)
theorem wfl_X0_21 : Cond.fieldLink RX0 21 "FireworkDeeds$Bay" "stars" "[I" ∈ qW := qW_mem (i := 120) (by decide +kernel) (by decide +kernel)
theorem wml_X0_24 : Cond.methodLink RX0 24 yX0_empty ∈ qW := qW_mem (i := 85) (by decide +kernel) (by decide +kernel)
theorem wim_X0_empty : Cond.instanceMethod yX0_empty ∈ qW := qW_mem (i := 86) (by decide +kernel) (by decide +kernel)
theorem wse_X0_empty : Cond.selects RX0 yX0_empty yX0_empty ∈ qW := qW_mem (i := 87) (by decide +kernel) (by decide +kernel)
theorem wco_X0_empty : Cond.code yX0_empty cX0_empty 1 none ∈ qW := qW_mem (i := 88) (by decide +kernel) (by decide +kernel)
theorem wfl_X0_27 : Cond.fieldLink RX0 27 "FireworkDeeds$Bay" "width" "I" ∈ qW := qW_mem (i := 89) (by decide +kernel) (by decide +kernel)
theorem wfl_X0_31 : Cond.fieldLink RX0 31 "FireworkDeeds$Bay" "firstFog" "I" ∈ qW := qW_mem (i := 93) (by decide +kernel) (by decide +kernel)
theorem wfl_X0_34 : Cond.fieldLink RX0 34 "FireworkDeeds$Bay" "firstWind" "I" ∈ qW := qW_mem (i := 96) (by decide +kernel) (by decide +kernel)
theorem wfl_X0_37 : Cond.fieldLink RX0 37 "FireworkDeeds$Bay" "smoke" "I" ∈ qW := qW_mem (i := 99) (by decide +kernel) (by decide +kernel)
theorem wfl_X0_40 : Cond.fieldLink RX0 40 "FireworkDeeds$Bay" "dampPercent" "I" ∈ qW := qW_mem (i := 103) (by decide +kernel) (by decide +kernel)
theorem wfl_X0_43 : Cond.fieldLink RX0 43 "FireworkDeeds$Bay" "count" "I" ∈ qW := qW_mem (i := 107) (by decide +kernel) (by decide +kernel)
theorem wim_X6_init : Cond.instanceMethod yX6_init ∈ qW := qW_mem (i := 147) (by decide +kernel) (by decide +kernel)
theorem wco_X6_init : Cond.code yX6_init cX6_init 1 none ∈ qW := qW_mem (i := 148) (by decide +kernel) (by decide +kernel)
theorem wml_X6_3 : Cond.methodLink RX6 3 objectInit ∈ qW := qW_mem (i := 149) (by decide +kernel) (by decide +kernel)
theorem wfl_X6_9 : Cond.fieldLink RX6 9 "FireworkDeeds$Reader" "text" "[I" ∈ qW := qW_mem (i := 150) (by decide +kernel) (by decide +kernel)
theorem wim_X3_init : Cond.instanceMethod yX3_init ∈ qW := qW_mem (i := 179) (by decide +kernel) (by decide +kernel)
theorem wco_X3_init : Cond.code yX3_init cX3_init 1 none ∈ qW := qW_mem (i := 180) (by decide +kernel) (by decide +kernel)
theorem wml_X3_3 : Cond.methodLink RX3 3 objectInit ∈ qW := qW_mem (i := 181) (by decide +kernel) (by decide +kernel)
theorem wfl_X3_9 : Cond.fieldLink RX3 9 "FireworkDeeds$Night" "rockets" "[I" ∈ qW := qW_mem (i := 191) (by decide +kernel) (by decide +kernel)
theorem wfl_X3_15 : Cond.fieldLink RX3 15 "FireworkDeeds$Night" "signedAt" "[I" ∈ qW := qW_mem (i := 194) (by decide +kernel) (by decide +kernel)
theorem wfl_X3_18 : Cond.fieldLink RX3 18 "FireworkDeeds$Night" "signedOver" "[I" ∈ qW := qW_mem (i := 196) (by decide +kernel) (by decide +kernel)
theorem wfl_X3_21 : Cond.fieldLink RX3 21 "FireworkDeeds$Night" "seenBy" "[I" ∈ qW := qW_mem (i := 198) (by decide +kernel) (by decide +kernel)
theorem wml_X9_47 : Cond.methodLink RX9 47 yX3_begin ∈ qW := qW_mem (i := 216) (by decide +kernel) (by decide +kernel)
theorem wim_X3_begin : Cond.instanceMethod yX3_begin ∈ qW := qW_mem (i := 217) (by decide +kernel) (by decide +kernel)
theorem wse_X3_begin : Cond.selects RX3 yX3_begin yX3_begin ∈ qW := qW_mem (i := 218) (by decide +kernel) (by decide +kernel)
theorem wco_X3_begin : Cond.code yX3_begin cX3_begin 3 none ∈ qW := qW_mem (i := 219) (by decide +kernel) (by decide +kernel)
theorem wfl_X3_24 : Cond.fieldLink RX3 24 "FireworkDeeds$Night" "minutes" "I" ∈ qW := qW_mem (i := 182) (by decide +kernel) (by decide +kernel)
theorem wfl_X3_28 : Cond.fieldLink RX3 28 "FireworkDeeds$Bay" "firstFog" "I" ∈ qW := qW_mem (i := 94) (by decide +kernel) (by decide +kernel)
theorem wfl_X3_33 : Cond.fieldLink RX3 33 "FireworkDeeds$Night" "fog" "I" ∈ qW := qW_mem (i := 185) (by decide +kernel) (by decide +kernel)
theorem wfl_X3_36 : Cond.fieldLink RX3 36 "FireworkDeeds$Bay" "firstWind" "I" ∈ qW := qW_mem (i := 97) (by decide +kernel) (by decide +kernel)
theorem wfl_X3_39 : Cond.fieldLink RX3 39 "FireworkDeeds$Night" "wind" "I" ∈ qW := qW_mem (i := 187) (by decide +kernel) (by decide +kernel)
theorem wfl_X3_42 : Cond.fieldLink RX3 42 "FireworkDeeds$Night" "holds" "I" ∈ qW := qW_mem (i := 189) (by decide +kernel) (by decide +kernel)
theorem wfl_X3_45 : Cond.fieldLink RX3 45 "FireworkDeeds$Bay" "count" "I" ∈ qW := qW_mem (i := 108) (by decide +kernel) (by decide +kernel)
theorem wfl_X3_48 : Cond.fieldLink RX3 48 "FireworkDeeds$Bay" "firstRockets" "[I" ∈ qW := qW_mem (i := 119) (by decide +kernel) (by decide +kernel)
theorem wml_X9_53 : Cond.methodLink RX9 53 yX5_init ∈ qW := qW_mem (i := 222) (by decide +kernel) (by decide +kernel)
theorem wim_X5_init : Cond.instanceMethod yX5_init ∈ qW := qW_mem (i := 223) (by decide +kernel) (by decide +kernel)
theorem wco_X5_init : Cond.code yX5_init cX5_init 2 none ∈ qW := qW_mem (i := 224) (by decide +kernel) (by decide +kernel)
theorem wml_X5_3 : Cond.methodLink RX5 3 objectInit ∈ qW := qW_mem (i := 225) (by decide +kernel) (by decide +kernel)
theorem wcl_X5_9 : Cond.classLink RX5 9 RX3 ∈ qW := qW_mem (i := 226) (by decide +kernel) (by decide +kernel)
theorem wfl_X5_11 : Cond.fieldLink RX5 11 "FireworkDeeds$Past" "nights" "[LFireworkDeeds$Night;" ∈ qW := qW_mem (i := 229) (by decide +kernel) (by decide +kernel)
theorem wim_X7_init : Cond.instanceMethod yX7_init ∈ qW := qW_mem (i := 243) (by decide +kernel) (by decide +kernel)
theorem wco_X7_init : Cond.code yX7_init cX7_init 1 none ∈ qW := qW_mem (i := 244) (by decide +kernel) (by decide +kernel)
theorem wml_X7_3 : Cond.methodLink RX7 3 objectInit ∈ qW := qW_mem (i := 245) (by decide +kernel) (by decide +kernel)
theorem wfl_X7_9 : Cond.fieldLink RX7 9 "FireworkDeeds$Row" "houses" "[I" ∈ qW := qW_mem (i := 248) (by decide +kernel) (by decide +kernel)
theorem wcl_X7_15 : Cond.classLink RX7 15 RX3 ∈ qW := qW_mem (i := 246) (by decide +kernel) (by decide +kernel)
theorem wfl_X7_18 : Cond.fieldLink RX7 18 "FireworkDeeds$Row" "tried" "LFireworkDeeds$Night;" ∈ qW := qW_mem (i := 250) (by decide +kernel) (by decide +kernel)
theorem wim_X4_init : Cond.instanceMethod yX4_init ∈ qW := qW_mem (i := 260) (by decide +kernel) (by decide +kernel)
theorem wco_X4_init : Cond.code yX4_init cX4_init 1 none ∈ qW := qW_mem (i := 261) (by decide +kernel) (by decide +kernel)
theorem wml_X4_3 : Cond.methodLink RX4 3 objectInit ∈ qW := qW_mem (i := 262) (by decide +kernel) (by decide +kernel)
theorem wfl_X4_9 : Cond.fieldLink RX4 9 "FireworkDeeds$Offers" "taken" "[I" ∈ qW := qW_mem (i := 263) (by decide +kernel) (by decide +kernel)
theorem wfl_X4_15 : Cond.fieldLink RX4 15 "FireworkDeeds$Offers" "refusedBy" "[I" ∈ qW := qW_mem (i := 265) (by decide +kernel) (by decide +kernel)
theorem wim_X2_init : Cond.instanceMethod yX2_init ∈ qW := qW_mem (i := 274) (by decide +kernel) (by decide +kernel)
theorem wco_X2_init : Cond.code yX2_init cX2_init 1 none ∈ qW := qW_mem (i := 275) (by decide +kernel) (by decide +kernel)
theorem wml_X2_3 : Cond.methodLink RX2 3 objectInit ∈ qW := qW_mem (i := 276) (by decide +kernel) (by decide +kernel)
theorem wfl_X2_9 : Cond.fieldLink RX2 9 "FireworkDeeds$Ducks" "minute" "[I" ∈ qW := qW_mem (i := 279) (by decide +kernel) (by decide +kernel)
theorem wfl_X2_15 : Cond.fieldLink RX2 15 "FireworkDeeds$Ducks" "cell" "[I" ∈ qW := qW_mem (i := 280) (by decide +kernel) (by decide +kernel)
theorem wim_X1_init : Cond.instanceMethod yX1_init ∈ qW := qW_mem (i := 292) (by decide +kernel) (by decide +kernel)
theorem wco_X1_init : Cond.code yX1_init cX1_init 1 none ∈ qW := qW_mem (i := 293) (by decide +kernel) (by decide +kernel)
theorem wml_X1_3 : Cond.methodLink RX1 3 objectInit ∈ qW := qW_mem (i := 294) (by decide +kernel) (by decide +kernel)
theorem wfl_X1_9 : Cond.fieldLink RX1 9 "FireworkDeeds$Book" "first" "[I" ∈ qW := qW_mem (i := 297) (by decide +kernel) (by decide +kernel)
theorem wfl_X1_15 : Cond.fieldLink RX1 15 "FireworkDeeds$Book" "second" "[I" ∈ qW := qW_mem (i := 298) (by decide +kernel) (by decide +kernel)
theorem wfl_X1_18 : Cond.fieldLink RX1 18 "FireworkDeeds$Book" "toldToHold" "[Z" ∈ qW := qW_mem (i := 299) (by decide +kernel) (by decide +kernel)
theorem wml_L_12 : Cond.methodLink RL 12 yX10_init ∈ qW := qW_mem (i := 772) (by decide +kernel) (by decide +kernel)
theorem wim_X10_init : Cond.instanceMethod yX10_init ∈ qW := qW_mem (i := 773) (by decide +kernel) (by decide +kernel)
theorem wco_X10_init : Cond.code yX10_init cX10_init 1 none ∈ qW := qW_mem (i := 774) (by decide +kernel) (by decide +kernel)
theorem wml_X10_1 : Cond.methodLink RX10 1 objectInit ∈ qW := qW_mem (i := 775) (by decide +kernel) (by decide +kernel)
theorem wfl_X10_7 : Cond.fieldLink RX10 7 "FireworkDeedsModel" "cell" "[I" ∈ qW := qW_mem (i := 778) (by decide +kernel) (by decide +kernel)
theorem wfl_X10_13 : Cond.fieldLink RX10 13 "FireworkDeedsModel" "powder" "[I" ∈ qW := qW_mem (i := 779) (by decide +kernel) (by decide +kernel)
theorem wfl_X10_16 : Cond.fieldLink RX10 16 "FireworkDeedsModel" "starsMany" "[I" ∈ qW := qW_mem (i := 780) (by decide +kernel) (by decide +kernel)
theorem wfl_X10_19 : Cond.fieldLink RX10 19 "FireworkDeedsModel" "stars" "[I" ∈ qW := qW_mem (i := 781) (by decide +kernel) (by decide +kernel)
theorem wfl_X10_22 : Cond.fieldLink RX10 22 "FireworkDeedsModel" "smoke" "I" ∈ qW := qW_mem (i := 782) (by decide +kernel) (by decide +kernel)
theorem wfl_X10_26 : Cond.fieldLink RX10 26 "FireworkDeedsModel" "damp" "I" ∈ qW := qW_mem (i := 783) (by decide +kernel) (by decide +kernel)
theorem wfl_X10_29 : Cond.fieldLink RX10 29 "FireworkDeedsModel" "now" "[I" ∈ qW := qW_mem (i := 784) (by decide +kernel) (by decide +kernel)
theorem wfl_X10_32 : Cond.fieldLink RX10 32 "FireworkDeedsModel" "text" "[I" ∈ qW := qW_mem (i := 786) (by decide +kernel) (by decide +kernel)
theorem wfl_X10_35 : Cond.fieldLink RX10 35 "FireworkDeedsModel" "faultPlace" "I" ∈ qW := qW_mem (i := 788) (by decide +kernel) (by decide +kernel)
theorem wfl_X10_38 : Cond.fieldLink RX10 38 "FireworkDeedsModel" "readBay" "[I" ∈ qW := qW_mem (i := 792) (by decide +kernel) (by decide +kernel)
theorem wfl_X10_41 : Cond.fieldLink RX10 41 "FireworkDeedsModel" "readCell" "[I" ∈ qW := qW_mem (i := 794) (by decide +kernel) (by decide +kernel)
theorem wfl_X10_44 : Cond.fieldLink RX10 44 "FireworkDeedsModel" "readPowder" "[I" ∈ qW := qW_mem (i := 795) (by decide +kernel) (by decide +kernel)
theorem wfl_X10_47 : Cond.fieldLink RX10 47 "FireworkDeedsModel" "readRockets" "[I" ∈ qW := qW_mem (i := 796) (by decide +kernel) (by decide +kernel)
theorem wfl_X10_50 : Cond.fieldLink RX10 50 "FireworkDeedsModel" "readMany" "[I" ∈ qW := qW_mem (i := 797) (by decide +kernel) (by decide +kernel)
theorem wfl_X10_53 : Cond.fieldLink RX10 53 "FireworkDeedsModel" "readStars" "[I" ∈ qW := qW_mem (i := 798) (by decide +kernel) (by decide +kernel)
theorem wfl_X10_56 : Cond.fieldLink RX10 56 "FireworkDeedsModel" "readSmoke" "[I" ∈ qW := qW_mem (i := 799) (by decide +kernel) (by decide +kernel)
theorem wfl_X10_59 : Cond.fieldLink RX10 59 "FireworkDeedsModel" "readDamp" "[I" ∈ qW := qW_mem (i := 800) (by decide +kernel) (by decide +kernel)
theorem wfl_X10_62 : Cond.fieldLink RX10 62 "FireworkDeedsModel" "past" "[I" ∈ qW := qW_mem (i := 804) (by decide +kernel) (by decide +kernel)
theorem wfl_X10_65 : Cond.fieldLink RX10 65 "FireworkDeedsModel" "was" "[I" ∈ qW := qW_mem (i := 805) (by decide +kernel) (by decide +kernel)
theorem wfl_X10_68 : Cond.fieldLink RX10 68 "FireworkDeedsModel" "figures" "[I" ∈ qW := qW_mem (i := 806) (by decide +kernel) (by decide +kernel)
theorem wfl_X10_71 : Cond.fieldLink RX10 71 "FireworkDeedsModel" "refused" "[I" ∈ qW := qW_mem (i := 807) (by decide +kernel) (by decide +kernel)
theorem wfl_X10_74 : Cond.fieldLink RX10 74 "FireworkDeedsModel" "partners" "[I" ∈ qW := qW_mem (i := 808) (by decide +kernel) (by decide +kernel)
theorem wfl_X10_77 : Cond.fieldLink RX10 77 "FireworkDeedsModel" "duckMinute" "[I" ∈ qW := qW_mem (i := 810) (by decide +kernel) (by decide +kernel)
theorem wfl_X10_80 : Cond.fieldLink RX10 80 "FireworkDeedsModel" "duckCell" "[I" ∈ qW := qW_mem (i := 811) (by decide +kernel) (by decide +kernel)
theorem wfl_X10_83 : Cond.fieldLink RX10 83 "FireworkDeedsModel" "bookA" "[I" ∈ qW := qW_mem (i := 813) (by decide +kernel) (by decide +kernel)
theorem wfl_X10_86 : Cond.fieldLink RX10 86 "FireworkDeedsModel" "bookB" "[I" ∈ qW := qW_mem (i := 814) (by decide +kernel) (by decide +kernel)
theorem wfl_X10_89 : Cond.fieldLink RX10 89 "FireworkDeedsModel" "bookHolds" "[Z" ∈ qW := qW_mem (i := 815) (by decide +kernel) (by decide +kernel)
theorem wfl_X10_93 : Cond.fieldLink RX10 93 "FireworkDeedsModel" "images" "[I" ∈ qW := qW_mem (i := 816) (by decide +kernel) (by decide +kernel)
theorem wfl_X10_96 : Cond.fieldLink RX10 96 "FireworkDeedsModel" "isKept" "[Z" ∈ qW := qW_mem (i := 817) (by decide +kernel) (by decide +kernel)
theorem wfl_X10_99 : Cond.fieldLink RX10 99 "FireworkDeedsModel" "wide" "I" ∈ qW := qW_mem (i := 776) (by decide +kernel) (by decide +kernel)
theorem wml_L_13 : Cond.methodLink RL 13 yX9_feed ∈ qW := qW_mem (i := 358) (by decide +kernel) (by decide +kernel)
theorem wim_X9_feed : Cond.instanceMethod yX9_feed ∈ qW := qW_mem (i := 359) (by decide +kernel) (by decide +kernel)
theorem wse_X9_feed : Cond.selects RX9 yX9_feed yX9_feed ∈ qW := qW_mem (i := 360) (by decide +kernel) (by decide +kernel)
theorem wco_X9_feed : Cond.code yX9_feed cX9_feed 2 (some .int) ∈ qW := qW_mem (i := 361) (by decide +kernel) (by decide +kernel)
theorem wk_X9_97 : Cond.constant RX9 97 (-1000000002) ∈ qW := qW_mem (i := 362) (by decide +kernel) (by decide +kernel)
theorem wk_X9_98 : Cond.constant RX9 98 (-1000000004) ∈ qW := qW_mem (i := 363) (by decide +kernel) (by decide +kernel)
theorem wml_L_17 : Cond.methodLink RL 17 yX10_feed ∈ qW := qW_mem (i := 903) (by decide +kernel) (by decide +kernel)
theorem wim_X10_feed : Cond.instanceMethod yX10_feed ∈ qW := qW_mem (i := 904) (by decide +kernel) (by decide +kernel)
theorem wse_X10_feed : Cond.selects RX10 yX10_feed yX10_feed ∈ qW := qW_mem (i := 905) (by decide +kernel) (by decide +kernel)
theorem wco_X10_feed : Cond.code yX10_feed cX10_feed 2 (some .int) ∈ qW := qW_mem (i := 906) (by decide +kernel) (by decide +kernel)
theorem wkl_X10_109 : Cond.constantLong RX10 109 (255) ∈ qW := qW_mem (i := 907) (by decide +kernel) (by decide +kernel)
theorem wk_X10_111 : Cond.constant RX10 111 (-1000000002) ∈ qW := qW_mem (i := 911) (by decide +kernel) (by decide +kernel)
theorem wfl_X10_112 : Cond.fieldLink RX10 112 "FireworkDeedsModel" "texted" "I" ∈ qW := qW_mem (i := 787) (by decide +kernel) (by decide +kernel)
theorem wk_X10_115 : Cond.constant RX10 115 (-1000000004) ∈ qW := qW_mem (i := 912) (by decide +kernel) (by decide +kernel)
theorem wml_X10_105 : Cond.methodLink RX10 105 yX10_in ∈ qW := qW_mem (i := 908) (by decide +kernel) (by decide +kernel)
theorem wst_X10_in : Cond.static yX10_in ∈ qW := qW_mem (i := 909) (by decide +kernel) (by decide +kernel)
theorem wco_X10_in : Cond.code yX10_in cX10_in 6 (some .boolean) ∈ qW := qW_mem (i := 910) (by decide +kernel) (by decide +kernel)
theorem wml_L_18 : Cond.methodLink RL 18 yX9_bay ∈ qW := qW_mem (i := 364) (by decide +kernel) (by decide +kernel)
theorem wim_X9_bay : Cond.instanceMethod yX9_bay ∈ qW := qW_mem (i := 365) (by decide +kernel) (by decide +kernel)
theorem wse_X9_bay : Cond.selects RX9 yX9_bay yX9_bay ∈ qW := qW_mem (i := 366) (by decide +kernel) (by decide +kernel)
theorem wco_X9_bay : Cond.code yX9_bay cX9_bay 4 (some .int) ∈ qW := qW_mem (i := 367) (by decide +kernel) (by decide +kernel)
theorem wfl_X9_107 : Cond.fieldLink RX9 107 "FireworkDeeds$Ducks" "count" "I" ∈ qW := qW_mem (i := 278) (by decide +kernel) (by decide +kernel)
theorem wfl_X9_110 : Cond.fieldLink RX9 110 "FireworkDeeds$Book" "count" "I" ∈ qW := qW_mem (i := 296) (by decide +kernel) (by decide +kernel)
theorem wfl_X9_111 : Cond.fieldLink RX9 111 "FireworkDeeds$Bay" "count" "I" ∈ qW := qW_mem (i := 110) (by decide +kernel) (by decide +kernel)
theorem wml_X9_99 : Cond.methodLink RX9 99 yX6_read ∈ qW := qW_mem (i := 368) (by decide +kernel) (by decide +kernel)
theorem wim_X6_read : Cond.instanceMethod yX6_read ∈ qW := qW_mem (i := 369) (by decide +kernel) (by decide +kernel)
theorem wse_X6_read : Cond.selects RX6 yX6_read yX6_read ∈ qW := qW_mem (i := 370) (by decide +kernel) (by decide +kernel)
theorem wco_X6_read : Cond.code yX6_read cX6_read 5 (some .int) ∈ qW := qW_mem (i := 371) (by decide +kernel) (by decide +kernel)
theorem wml_X6_15 : Cond.methodLink RX6 15 Lib.Math.min.name ∈ qW := qW_mem (i := 372) (by decide +kernel) (by decide +kernel)
theorem wst_Mmin : Cond.static Lib.Math.min.name ∈ qW := qW_mem (i := 373) (by decide +kernel) (by decide +kernel)
theorem win_Math : Cond.initialized "java/lang/Math" ∈ qW := qW_mem (i := 68) (by decide +kernel) (by decide +kernel)
theorem wco_Mmin : Cond.code Lib.Math.min.name Lib.Math.min.code 2 (some .int) ∈ qW := qW_mem (i := 374) (by decide +kernel) (by decide +kernel)
theorem wfl_X6_21 : Cond.fieldLink RX6 21 "FireworkDeeds$Reader" "length" "I" ∈ qW := qW_mem (i := 151) (by decide +kernel) (by decide +kernel)
theorem wfl_X6_25 : Cond.fieldLink RX6 25 "FireworkDeeds$Reader" "at" "I" ∈ qW := qW_mem (i := 152) (by decide +kernel) (by decide +kernel)
theorem wfl_X6_28 : Cond.fieldLink RX6 28 "FireworkDeeds$Reader" "faultNumber" "I" ∈ qW := qW_mem (i := 154) (by decide +kernel) (by decide +kernel)
theorem wfl_X6_31 : Cond.fieldLink RX6 31 "FireworkDeeds$Reader" "faultAt" "I" ∈ qW := qW_mem (i := 155) (by decide +kernel) (by decide +kernel)
theorem wfl_X6_34 : Cond.fieldLink RX6 34 "FireworkDeeds$Reader" "smokeTold" "Z" ∈ qW := qW_mem (i := 157) (by decide +kernel) (by decide +kernel)
theorem wfl_X6_38 : Cond.fieldLink RX6 38 "FireworkDeeds$Reader" "dampTold" "Z" ∈ qW := qW_mem (i := 158) (by decide +kernel) (by decide +kernel)
theorem wml_X6_41 : Cond.methodLink RX6 41 yX0_empty ∈ qW := qW_mem (i := 375) (by decide +kernel) (by decide +kernel)
theorem wml_X6_46 : Cond.methodLink RX6 46 yX6_skipBlanks ∈ qW := qW_mem (i := 376) (by decide +kernel) (by decide +kernel)
theorem wim_X6_skipBlanks : Cond.instanceMethod yX6_skipBlanks ∈ qW := qW_mem (i := 378) (by decide +kernel) (by decide +kernel)
theorem wse_X6_skipBlanks : Cond.selects RX6 yX6_skipBlanks yX6_skipBlanks ∈ qW := qW_mem (i := 0) (by decide +kernel) (by decide +kernel)
theorem wco_X6_skipBlanks : Cond.code yX6_skipBlanks cX6_skipBlanks 1 none ∈ qW := qW_mem (i := 379) (by decide +kernel) (by decide +kernel)
theorem wml_X6_49 : Cond.methodLink RX6 49 yX6_readClause ∈ qW := qW_mem (i := 380) (by decide +kernel) (by decide +kernel)
theorem wim_X6_readClause : Cond.instanceMethod yX6_readClause ∈ qW := qW_mem (i := 382) (by decide +kernel) (by decide +kernel)
theorem wse_X6_readClause : Cond.selects RX6 yX6_readClause yX6_readClause ∈ qW := qW_mem (i := 1) (by decide +kernel) (by decide +kernel)
theorem wco_X6_readClause : Cond.code yX6_readClause cX6_readClause 3 none ∈ qW := qW_mem (i := 383) (by decide +kernel) (by decide +kernel)
theorem wfl_X6_53 : Cond.fieldLink RX6 53 "FireworkDeeds$Bay" "width" "I" ∈ qW := qW_mem (i := 90) (by decide +kernel) (by decide +kernel)
theorem wml_X6_56 : Cond.methodLink RX6 56 yX6_fail ∈ qW := qW_mem (i := 384) (by decide +kernel) (by decide +kernel)
theorem wim_X6_fail : Cond.instanceMethod yX6_fail ∈ qW := qW_mem (i := 386) (by decide +kernel) (by decide +kernel)
theorem wse_X6_fail : Cond.selects RX6 yX6_fail yX6_fail ∈ qW := qW_mem (i := 2) (by decide +kernel) (by decide +kernel)
theorem wco_X6_fail : Cond.code yX6_fail cX6_fail 3 none ∈ qW := qW_mem (i := 387) (by decide +kernel) (by decide +kernel)
theorem wml_X6_60 : Cond.methodLink RX6 60 yX6_readCells ∈ qW := qW_mem (i := 388) (by decide +kernel) (by decide +kernel)
theorem wim_X6_readCells : Cond.instanceMethod yX6_readCells ∈ qW := qW_mem (i := 390) (by decide +kernel) (by decide +kernel)
theorem wse_X6_readCells : Cond.selects RX6 yX6_readCells yX6_readCells ∈ qW := qW_mem (i := 3) (by decide +kernel) (by decide +kernel)
theorem wco_X6_readCells : Cond.code yX6_readCells cX6_readCells 5 none ∈ qW := qW_mem (i := 391) (by decide +kernel) (by decide +kernel)
theorem wfl_X6_82 : Cond.fieldLink RX6 82 "FireworkDeeds$Bay" "firstFog" "I" ∈ qW := qW_mem (i := 95) (by decide +kernel) (by decide +kernel)
theorem wfl_X6_85 : Cond.fieldLink RX6 85 "FireworkDeeds$Bay" "firstWind" "I" ∈ qW := qW_mem (i := 98) (by decide +kernel) (by decide +kernel)
theorem wml_X6_72 : Cond.methodLink RX6 72 yX6_passWord ∈ qW := qW_mem (i := 392) (by decide +kernel) (by decide +kernel)
theorem wim_X6_passWord : Cond.instanceMethod yX6_passWord ∈ qW := qW_mem (i := 394) (by decide +kernel) (by decide +kernel)
theorem wse_X6_passWord : Cond.selects RX6 yX6_passWord yX6_passWord ∈ qW := qW_mem (i := 4) (by decide +kernel) (by decide +kernel)
theorem wco_X6_passWord : Cond.code yX6_passWord cX6_passWord 2 none ∈ qW := qW_mem (i := 395) (by decide +kernel) (by decide +kernel)
theorem wml_X6_76 : Cond.methodLink RX6 76 yX6_readNumber ∈ qW := qW_mem (i := 396) (by decide +kernel) (by decide +kernel)
theorem wim_X6_readNumber : Cond.instanceMethod yX6_readNumber ∈ qW := qW_mem (i := 398) (by decide +kernel) (by decide +kernel)
theorem wse_X6_readNumber : Cond.selects RX6 yX6_readNumber yX6_readNumber ∈ qW := qW_mem (i := 5) (by decide +kernel) (by decide +kernel)
theorem wco_X6_readNumber : Cond.code yX6_readNumber cX6_readNumber 5 (some .int) ∈ qW := qW_mem (i := 399) (by decide +kernel) (by decide +kernel)
theorem wfl_X6_95 : Cond.fieldLink RX6 95 "FireworkDeeds$Reader" "numberAt" "I" ∈ qW := qW_mem (i := 153) (by decide +kernel) (by decide +kernel)
theorem wml_X6_79 : Cond.methodLink RX6 79 yX6_passEnd ∈ qW := qW_mem (i := 400) (by decide +kernel) (by decide +kernel)
theorem wim_X6_passEnd : Cond.instanceMethod yX6_passEnd ∈ qW := qW_mem (i := 402) (by decide +kernel) (by decide +kernel)
theorem wse_X6_passEnd : Cond.selects RX6 yX6_passEnd yX6_passEnd ∈ qW := qW_mem (i := 6) (by decide +kernel) (by decide +kernel)
theorem wco_X6_passEnd : Cond.code yX6_passEnd cX6_passEnd 1 none ∈ qW := qW_mem (i := 403) (by decide +kernel) (by decide +kernel)
theorem wml_X6_63 : Cond.methodLink RX6 63 yX6_readHouse ∈ qW := qW_mem (i := 404) (by decide +kernel) (by decide +kernel)
theorem wim_X6_readHouse : Cond.instanceMethod yX6_readHouse ∈ qW := qW_mem (i := 406) (by decide +kernel) (by decide +kernel)
theorem wse_X6_readHouse : Cond.selects RX6 yX6_readHouse yX6_readHouse ∈ qW := qW_mem (i := 7) (by decide +kernel) (by decide +kernel)
theorem wco_X6_readHouse : Cond.code yX6_readHouse cX6_readHouse 6 none ∈ qW := qW_mem (i := 407) (by decide +kernel) (by decide +kernel)
theorem wfl_X6_88 : Cond.fieldLink RX6 88 "FireworkDeeds$Bay" "count" "I" ∈ qW := qW_mem (i := 111) (by decide +kernel) (by decide +kernel)
theorem wml_X6_91 : Cond.methodLink RX6 91 yX0_houseOn ∈ qW := qW_mem (i := 408) (by decide +kernel) (by decide +kernel)
theorem wim_X0_houseOn : Cond.instanceMethod yX0_houseOn ∈ qW := qW_mem (i := 409) (by decide +kernel) (by decide +kernel)
theorem wse_X0_houseOn : Cond.selects RX0 yX0_houseOn yX0_houseOn ∈ qW := qW_mem (i := 410) (by decide +kernel) (by decide +kernel)
theorem wco_X0_houseOn : Cond.code yX0_houseOn cX0_houseOn 3 (some .int) ∈ qW := qW_mem (i := 411) (by decide +kernel) (by decide +kernel)
theorem wml_X6_98 : Cond.methodLink RX6 98 yX6_readStars ∈ qW := qW_mem (i := 412) (by decide +kernel) (by decide +kernel)
theorem wim_X6_readStars : Cond.instanceMethod yX6_readStars ∈ qW := qW_mem (i := 414) (by decide +kernel) (by decide +kernel)
theorem wse_X6_readStars : Cond.selects RX6 yX6_readStars yX6_readStars ∈ qW := qW_mem (i := 8) (by decide +kernel) (by decide +kernel)
theorem wco_X6_readStars : Cond.code yX6_readStars cX6_readStars 4 (some .int) ∈ qW := qW_mem (i := 415) (by decide +kernel) (by decide +kernel)
theorem wml_X6_112 : Cond.methodLink RX6 112 yX0_houseOfStars ∈ qW := qW_mem (i := 416) (by decide +kernel) (by decide +kernel)
theorem wim_X0_houseOfStars : Cond.instanceMethod yX0_houseOfStars ∈ qW := qW_mem (i := 417) (by decide +kernel) (by decide +kernel)
theorem wse_X0_houseOfStars : Cond.selects RX0 yX0_houseOfStars yX0_houseOfStars ∈ qW := qW_mem (i := 418) (by decide +kernel) (by decide +kernel)
theorem wco_X0_houseOfStars : Cond.code yX0_houseOfStars cX0_houseOfStars 3 (some .int) ∈ qW := qW_mem (i := 419) (by decide +kernel) (by decide +kernel)
theorem wml_X6_102 : Cond.methodLink RX6 102 yX0_settle ∈ qW := qW_mem (i := 420) (by decide +kernel) (by decide +kernel)
theorem wim_X0_settle : Cond.instanceMethod yX0_settle ∈ qW := qW_mem (i := 421) (by decide +kernel) (by decide +kernel)
theorem wse_X0_settle : Cond.selects RX0 yX0_settle yX0_settle ∈ qW := qW_mem (i := 422) (by decide +kernel) (by decide +kernel)
theorem wco_X0_settle : Cond.code yX0_settle cX0_settle 5 none ∈ qW := qW_mem (i := 423) (by decide +kernel) (by decide +kernel)
theorem wml_X6_66 : Cond.methodLink RX6 66 yX6_readSmoke ∈ qW := qW_mem (i := 424) (by decide +kernel) (by decide +kernel)
theorem wim_X6_readSmoke : Cond.instanceMethod yX6_readSmoke ∈ qW := qW_mem (i := 426) (by decide +kernel) (by decide +kernel)
theorem wse_X6_readSmoke : Cond.selects RX6 yX6_readSmoke yX6_readSmoke ∈ qW := qW_mem (i := 9) (by decide +kernel) (by decide +kernel)
theorem wco_X6_readSmoke : Cond.code yX6_readSmoke cX6_readSmoke 3 none ∈ qW := qW_mem (i := 427) (by decide +kernel) (by decide +kernel)
theorem wfl_X6_106 : Cond.fieldLink RX6 106 "FireworkDeeds$Bay" "smoke" "I" ∈ qW := qW_mem (i := 101) (by decide +kernel) (by decide +kernel)
theorem wml_X6_69 : Cond.methodLink RX6 69 yX6_readDamp ∈ qW := qW_mem (i := 428) (by decide +kernel) (by decide +kernel)
theorem wim_X6_readDamp : Cond.instanceMethod yX6_readDamp ∈ qW := qW_mem (i := 430) (by decide +kernel) (by decide +kernel)
theorem wse_X6_readDamp : Cond.selects RX6 yX6_readDamp yX6_readDamp ∈ qW := qW_mem (i := 10) (by decide +kernel) (by decide +kernel)
theorem wco_X6_readDamp : Cond.code yX6_readDamp cX6_readDamp 3 none ∈ qW := qW_mem (i := 431) (by decide +kernel) (by decide +kernel)
theorem wfl_X6_109 : Cond.fieldLink RX6 109 "FireworkDeeds$Bay" "dampPercent" "I" ∈ qW := qW_mem (i := 105) (by decide +kernel) (by decide +kernel)
theorem wml_X9_104 : Cond.methodLink RX9 104 yX5_clear ∈ qW := qW_mem (i := 432) (by decide +kernel) (by decide +kernel)
theorem wim_X5_clear : Cond.instanceMethod yX5_clear ∈ qW := qW_mem (i := 433) (by decide +kernel) (by decide +kernel)
theorem wse_X5_clear : Cond.selects RX5 yX5_clear yX5_clear ∈ qW := qW_mem (i := 434) (by decide +kernel) (by decide +kernel)
theorem wco_X5_clear : Cond.code yX5_clear cX5_clear 1 none ∈ qW := qW_mem (i := 435) (by decide +kernel) (by decide +kernel)
theorem wfl_X5_18 : Cond.fieldLink RX5 18 "FireworkDeeds$Past" "next" "I" ∈ qW := qW_mem (i := 230) (by decide +kernel) (by decide +kernel)
theorem wfl_X5_22 : Cond.fieldLink RX5 22 "FireworkDeeds$Past" "count" "I" ∈ qW := qW_mem (i := 231) (by decide +kernel) (by decide +kernel)
theorem wml_L_22 : Cond.methodLink RL 22 yX10_bay ∈ qW := qW_mem (i := 913) (by decide +kernel) (by decide +kernel)
theorem wim_X10_bay : Cond.instanceMethod yX10_bay ∈ qW := qW_mem (i := 914) (by decide +kernel) (by decide +kernel)
theorem wse_X10_bay : Cond.selects RX10 yX10_bay yX10_bay ∈ qW := qW_mem (i := 915) (by decide +kernel) (by decide +kernel)
theorem wco_X10_bay : Cond.code yX10_bay cX10_bay 2 (some .int) ∈ qW := qW_mem (i := 916) (by decide +kernel) (by decide +kernel)
theorem wfl_X10_116 : Cond.fieldLink RX10 116 "FireworkDeedsModel" "at0" "I" ∈ qW := qW_mem (i := 789) (by decide +kernel) (by decide +kernel)
theorem wfl_X10_156 : Cond.fieldLink RX10 156 "FireworkDeedsModel" "readHouses" "I" ∈ qW := qW_mem (i := 793) (by decide +kernel) (by decide +kernel)
theorem wfl_X10_166 : Cond.fieldLink RX10 166 "FireworkDeedsModel" "hasSmoke" "Z" ∈ qW := qW_mem (i := 801) (by decide +kernel) (by decide +kernel)
theorem wfl_X10_170 : Cond.fieldLink RX10 170 "FireworkDeedsModel" "hasDamp" "Z" ∈ qW := qW_mem (i := 802) (by decide +kernel) (by decide +kernel)
theorem wfl_X10_185 : Cond.fieldLink RX10 185 "FireworkDeedsModel" "ducks" "I" ∈ qW := qW_mem (i := 809) (by decide +kernel) (by decide +kernel)
theorem wfl_X10_188 : Cond.fieldLink RX10 188 "FireworkDeedsModel" "booked" "I" ∈ qW := qW_mem (i := 812) (by decide +kernel) (by decide +kernel)
theorem wfl_X10_191 : Cond.fieldLink RX10 191 "FireworkDeedsModel" "undos" "I" ∈ qW := qW_mem (i := 803) (by decide +kernel) (by decide +kernel)
theorem wfl_X10_102 : Cond.fieldLink RX10 102 "FireworkDeedsModel" "houses" "I" ∈ qW := qW_mem (i := 777) (by decide +kernel) (by decide +kernel)
theorem wml_X10_119 : Cond.methodLink RX10 119 yX10_here ∈ qW := qW_mem (i := 917) (by decide +kernel) (by decide +kernel)
theorem wim_X10_here : Cond.instanceMethod yX10_here ∈ qW := qW_mem (i := 919) (by decide +kernel) (by decide +kernel)
theorem wse_X10_here : Cond.selects RX10 yX10_here yX10_here ∈ qW := qW_mem (i := 22) (by decide +kernel) (by decide +kernel)
theorem wco_X10_here : Cond.code yX10_here cX10_here 1 (some .int) ∈ qW := qW_mem (i := 920) (by decide +kernel) (by decide +kernel)
theorem wml_X10_179 : Cond.methodLink RX10 179 yX10_takeClause ∈ qW := qW_mem (i := 921) (by decide +kernel) (by decide +kernel)
theorem wim_X10_takeClause : Cond.instanceMethod yX10_takeClause ∈ qW := qW_mem (i := 923) (by decide +kernel) (by decide +kernel)
theorem wse_X10_takeClause : Cond.selects RX10 yX10_takeClause yX10_takeClause ∈ qW := qW_mem (i := 23) (by decide +kernel) (by decide +kernel)
theorem wco_X10_takeClause : Cond.code yX10_takeClause cX10_takeClause 5 (some .int) ∈ qW := qW_mem (i := 924) (by decide +kernel) (by decide +kernel)
theorem wml_X10_127 : Cond.methodLink RX10 127 yX10_fails ∈ qW := qW_mem (i := 925) (by decide +kernel) (by decide +kernel)
theorem wim_X10_fails : Cond.instanceMethod yX10_fails ∈ qW := qW_mem (i := 927) (by decide +kernel) (by decide +kernel)
theorem wse_X10_fails : Cond.selects RX10 yX10_fails yX10_fails ∈ qW := qW_mem (i := 24) (by decide +kernel) (by decide +kernel)
theorem wco_X10_fails : Cond.code yX10_fails cX10_fails 3 (some .int) ∈ qW := qW_mem (i := 928) (by decide +kernel) (by decide +kernel)
theorem wml_X10_173 : Cond.methodLink RX10 173 yX10_takeBay ∈ qW := qW_mem (i := 929) (by decide +kernel) (by decide +kernel)
theorem wim_X10_takeBay : Cond.instanceMethod yX10_takeBay ∈ qW := qW_mem (i := 931) (by decide +kernel) (by decide +kernel)
theorem wse_X10_takeBay : Cond.selects RX10 yX10_takeBay yX10_takeBay ∈ qW := qW_mem (i := 25) (by decide +kernel) (by decide +kernel)
theorem wco_X10_takeBay : Cond.code yX10_takeBay cX10_takeBay 2 (some .int) ∈ qW := qW_mem (i := 932) (by decide +kernel) (by decide +kernel)
theorem wml_X10_140 : Cond.methodLink RX10 140 yX10_into ∈ qW := qW_mem (i := 933) (by decide +kernel) (by decide +kernel)
theorem wim_X10_into : Cond.instanceMethod yX10_into ∈ qW := qW_mem (i := 935) (by decide +kernel) (by decide +kernel)
theorem wse_X10_into : Cond.selects RX10 yX10_into yX10_into ∈ qW := qW_mem (i := 26) (by decide +kernel) (by decide +kernel)
theorem wco_X10_into : Cond.code yX10_into cX10_into 6 (some .int) ∈ qW := qW_mem (i := 936) (by decide +kernel) (by decide +kernel)
theorem wfl_X10_134 : Cond.fieldLink RX10 134 "FireworkDeedsModel" "number" "I" ∈ qW := qW_mem (i := 790) (by decide +kernel) (by decide +kernel)
theorem wml_X10_137 : Cond.methodLink RX10 137 yX10_takeNumber ∈ qW := qW_mem (i := 937) (by decide +kernel) (by decide +kernel)
theorem wim_X10_takeNumber : Cond.instanceMethod yX10_takeNumber ∈ qW := qW_mem (i := 939) (by decide +kernel) (by decide +kernel)
theorem wse_X10_takeNumber : Cond.selects RX10 yX10_takeNumber yX10_takeNumber ∈ qW := qW_mem (i := 27) (by decide +kernel) (by decide +kernel)
theorem wco_X10_takeNumber : Cond.code yX10_takeNumber cX10_takeNumber 4 (some .int) ∈ qW := qW_mem (i := 940) (by decide +kernel) (by decide +kernel)
theorem wkl_X10_123 : Cond.constantLong RX10 123 (48) ∈ qW := qW_mem (i := 941) (by decide +kernel) (by decide +kernel)
theorem wkl_X10_125 : Cond.constantLong RX10 125 (57) ∈ qW := qW_mem (i := 942) (by decide +kernel) (by decide +kernel)
theorem wfl_X10_131 : Cond.fieldLink RX10 131 "FireworkDeedsModel" "numberAt" "I" ∈ qW := qW_mem (i := 791) (by decide +kernel) (by decide +kernel)
theorem wml_X10_176 : Cond.methodLink RX10 176 yX10_takeHouse ∈ qW := qW_mem (i := 943) (by decide +kernel) (by decide +kernel)
theorem wim_X10_takeHouse : Cond.instanceMethod yX10_takeHouse ∈ qW := qW_mem (i := 945) (by decide +kernel) (by decide +kernel)
theorem wse_X10_takeHouse : Cond.selects RX10 yX10_takeHouse yX10_takeHouse ∈ qW := qW_mem (i := 28) (by decide +kernel) (by decide +kernel)
theorem wco_X10_takeHouse : Cond.code yX10_takeHouse cX10_takeHouse 3 (some .int) ∈ qW := qW_mem (i := 946) (by decide +kernel) (by decide +kernel)
theorem wml_X10_159 : Cond.methodLink RX10 159 yX10_takeCell ∈ qW := qW_mem (i := 947) (by decide +kernel) (by decide +kernel)
theorem wim_X10_takeCell : Cond.instanceMethod yX10_takeCell ∈ qW := qW_mem (i := 949) (by decide +kernel) (by decide +kernel)
theorem wse_X10_takeCell : Cond.selects RX10 yX10_takeCell yX10_takeCell ∈ qW := qW_mem (i := 29) (by decide +kernel) (by decide +kernel)
theorem wco_X10_takeCell : Cond.code yX10_takeCell cX10_takeCell 4 (some .int) ∈ qW := qW_mem (i := 950) (by decide +kernel) (by decide +kernel)
theorem wml_X10_163 : Cond.methodLink RX10 163 yX10_takeStars ∈ qW := qW_mem (i := 951) (by decide +kernel) (by decide +kernel)
theorem wim_X10_takeStars : Cond.instanceMethod yX10_takeStars ∈ qW := qW_mem (i := 953) (by decide +kernel) (by decide +kernel)
theorem wse_X10_takeStars : Cond.selects RX10 yX10_takeStars yX10_takeStars ∈ qW := qW_mem (i := 30) (by decide +kernel) (by decide +kernel)
theorem wco_X10_takeStars : Cond.code yX10_takeStars cX10_takeStars 6 (some .int) ∈ qW := qW_mem (i := 954) (by decide +kernel) (by decide +kernel)
theorem wkl_X10_144 : Cond.constantLong RX10 144 (97) ∈ qW := qW_mem (i := 955) (by decide +kernel) (by decide +kernel)
theorem wkl_X10_146 : Cond.constantLong RX10 146 (101) ∈ qW := qW_mem (i := 956) (by decide +kernel) (by decide +kernel)
theorem wml_X10_148 : Cond.methodLink RX10 148 yX10_isStar ∈ qW := qW_mem (i := 957) (by decide +kernel) (by decide +kernel)
theorem wim_X10_isStar : Cond.instanceMethod yX10_isStar ∈ qW := qW_mem (i := 959) (by decide +kernel) (by decide +kernel)
theorem wse_X10_isStar : Cond.selects RX10 yX10_isStar yX10_isStar ∈ qW := qW_mem (i := 31) (by decide +kernel) (by decide +kernel)
theorem wco_X10_isStar : Cond.code yX10_isStar cX10_isStar 2 (some .boolean) ∈ qW := qW_mem (i := 960) (by decide +kernel) (by decide +kernel)
theorem wml_X10_152 : Cond.methodLink RX10 152 yX10_areLike ∈ qW := qW_mem (i := 961) (by decide +kernel) (by decide +kernel)
theorem wim_X10_areLike : Cond.instanceMethod yX10_areLike ∈ qW := qW_mem (i := 963) (by decide +kernel) (by decide +kernel)
theorem wse_X10_areLike : Cond.selects RX10 yX10_areLike yX10_areLike ∈ qW := qW_mem (i := 32) (by decide +kernel) (by decide +kernel)
theorem wco_X10_areLike : Cond.code yX10_areLike cX10_areLike 5 (some .boolean) ∈ qW := qW_mem (i := 964) (by decide +kernel) (by decide +kernel)
theorem wml_X10_182 : Cond.methodLink RX10 182 yX10_takeRead ∈ qW := qW_mem (i := 965) (by decide +kernel) (by decide +kernel)
theorem wim_X10_takeRead : Cond.instanceMethod yX10_takeRead ∈ qW := qW_mem (i := 967) (by decide +kernel) (by decide +kernel)
theorem wse_X10_takeRead : Cond.selects RX10 yX10_takeRead yX10_takeRead ∈ qW := qW_mem (i := 33) (by decide +kernel) (by decide +kernel)
theorem wco_X10_takeRead : Cond.code yX10_takeRead cX10_takeRead 3 none ∈ qW := qW_mem (i := 968) (by decide +kernel) (by decide +kernel)
theorem wml_L_23 : Cond.methodLink RL 23 yX9_fault ∈ qW := qW_mem (i := 436) (by decide +kernel) (by decide +kernel)
theorem wim_X9_fault : Cond.instanceMethod yX9_fault ∈ qW := qW_mem (i := 437) (by decide +kernel) (by decide +kernel)
theorem wse_X9_fault : Cond.selects RX9 yX9_fault yX9_fault ∈ qW := qW_mem (i := 438) (by decide +kernel) (by decide +kernel)
theorem wco_X9_fault : Cond.code yX9_fault cX9_fault 1 (some .int) ∈ qW := qW_mem (i := 439) (by decide +kernel) (by decide +kernel)
theorem wml_L_26 : Cond.methodLink RL 26 yX10_fault ∈ qW := qW_mem (i := 969) (by decide +kernel) (by decide +kernel)
theorem wim_X10_fault : Cond.instanceMethod yX10_fault ∈ qW := qW_mem (i := 970) (by decide +kernel) (by decide +kernel)
theorem wse_X10_fault : Cond.selects RX10 yX10_fault yX10_fault ∈ qW := qW_mem (i := 971) (by decide +kernel) (by decide +kernel)
theorem wco_X10_fault : Cond.code yX10_fault cX10_fault 1 (some .int) ∈ qW := qW_mem (i := 972) (by decide +kernel) (by decide +kernel)
theorem wml_L_27 : Cond.methodLink RL 27 yX9_told ∈ qW := qW_mem (i := 440) (by decide +kernel) (by decide +kernel)
theorem wim_X9_told : Cond.instanceMethod yX9_told ∈ qW := qW_mem (i := 441) (by decide +kernel) (by decide +kernel)
theorem wse_X9_told : Cond.selects RX9 yX9_told yX9_told ∈ qW := qW_mem (i := 442) (by decide +kernel) (by decide +kernel)
theorem wco_X9_told : Cond.code yX9_told cX9_told 2 (some .int) ∈ qW := qW_mem (i := 443) (by decide +kernel) (by decide +kernel)
theorem wfl_X9_112 : Cond.fieldLink RX9 112 "FireworkDeeds$Bay" "width" "I" ∈ qW := qW_mem (i := 92) (by decide +kernel) (by decide +kernel)
theorem wfl_X9_115 : Cond.fieldLink RX9 115 "FireworkDeeds$Night" "fog" "I" ∈ qW := qW_mem (i := 186) (by decide +kernel) (by decide +kernel)
theorem wfl_X9_118 : Cond.fieldLink RX9 118 "FireworkDeeds$Night" "wind" "I" ∈ qW := qW_mem (i := 188) (by decide +kernel) (by decide +kernel)
theorem wfl_X9_121 : Cond.fieldLink RX9 121 "FireworkDeeds$Bay" "smoke" "I" ∈ qW := qW_mem (i := 100) (by decide +kernel) (by decide +kernel)
theorem wfl_X9_124 : Cond.fieldLink RX9 124 "FireworkDeeds$Bay" "dampPercent" "I" ∈ qW := qW_mem (i := 104) (by decide +kernel) (by decide +kernel)
theorem wfl_X9_127 : Cond.fieldLink RX9 127 "FireworkDeeds$Night" "minutes" "I" ∈ qW := qW_mem (i := 184) (by decide +kernel) (by decide +kernel)
theorem wfl_X9_130 : Cond.fieldLink RX9 130 "FireworkDeeds$Night" "holds" "I" ∈ qW := qW_mem (i := 190) (by decide +kernel) (by decide +kernel)
end
section
theorem wfl_X9_143 : Cond.fieldLink RX9 143 "FireworkDeeds$Past" "count" "I" ∈ qW := qW_mem (i := 232) (by decide +kernel) (by decide +kernel)
theorem wml_X9_133 : Cond.methodLink RX9 133 yJ6_bitCount_0f7a4 ∈ qW := qW_mem (i := 444) (by decide +kernel) (by decide +kernel)
theorem wst_J6_bitCount_0f7a4 : Cond.static yJ6_bitCount_0f7a4 ∈ qW := qW_mem (i := 445) (by decide +kernel) (by decide +kernel)
theorem win_J6 : Cond.initialized RJ6 ∈ qW := qW_mem (i := 69) (by decide +kernel) (by decide +kernel)
theorem wco_J6_bitCount_0f7a4 : Cond.code yJ6_bitCount_0f7a4 cJ6_bitCount_0f7a4 1 (some .int) ∈ qW := qW_mem (i := 446) (by decide +kernel) (by decide +kernel)
theorem wk_J6_265 : Cond.constant RJ6 265 (1431655765) ∈ qW := qW_mem (i := 447) (by decide +kernel) (by decide +kernel)
theorem wk_J6_266 : Cond.constant RJ6 266 (858993459) ∈ qW := qW_mem (i := 448) (by decide +kernel) (by decide +kernel)
theorem wk_J6_267 : Cond.constant RJ6 267 (252645135) ∈ qW := qW_mem (i := 449) (by decide +kernel) (by decide +kernel)
theorem wml_X9_139 : Cond.methodLink RX9 139 yX3_conditionals ∈ qW := qW_mem (i := 450) (by decide +kernel) (by decide +kernel)
theorem wim_X3_conditionals : Cond.instanceMethod yX3_conditionals ∈ qW := qW_mem (i := 451) (by decide +kernel) (by decide +kernel)
theorem wse_X3_conditionals : Cond.selects RX3 yX3_conditionals yX3_conditionals ∈ qW := qW_mem (i := 452) (by decide +kernel) (by decide +kernel)
theorem wco_X3_conditionals : Cond.code yX3_conditionals cX3_conditionals 5 (some .int) ∈ qW := qW_mem (i := 453) (by decide +kernel) (by decide +kernel)
theorem wml_X3_112 : Cond.methodLink RX3 112 yX3_holdsFor ∈ qW := qW_mem (i := 454) (by decide +kernel) (by decide +kernel)
theorem wim_X3_holdsFor : Cond.instanceMethod yX3_holdsFor ∈ qW := qW_mem (i := 455) (by decide +kernel) (by decide +kernel)
theorem wse_X3_holdsFor : Cond.selects RX3 yX3_holdsFor yX3_holdsFor ∈ qW := qW_mem (i := 456) (by decide +kernel) (by decide +kernel)
theorem wco_X3_holdsFor : Cond.code yX3_holdsFor cX3_holdsFor 3 (some .boolean) ∈ qW := qW_mem (i := 457) (by decide +kernel) (by decide +kernel)
theorem wml_X3_109 : Cond.methodLink RX3 109 yX3_pairBit ∈ qW := qW_mem (i := 458) (by decide +kernel) (by decide +kernel)
theorem wst_X3_pairBit : Cond.static yX3_pairBit ∈ qW := qW_mem (i := 459) (by decide +kernel) (by decide +kernel)
theorem wco_X3_pairBit : Cond.code yX3_pairBit cX3_pairBit 3 (some .int) ∈ qW := qW_mem (i := 460) (by decide +kernel) (by decide +kernel)
theorem wml_X3_67 : Cond.methodLink RX3 67 Lib.Math.max.name ∈ qW := qW_mem (i := 461) (by decide +kernel) (by decide +kernel)
theorem wst_Mmax : Cond.static Lib.Math.max.name ∈ qW := qW_mem (i := 462) (by decide +kernel) (by decide +kernel)
theorem wco_Mmax : Cond.code Lib.Math.max.name Lib.Math.max.code 2 (some .int) ∈ qW := qW_mem (i := 463) (by decide +kernel) (by decide +kernel)
theorem wml_X3_61 : Cond.methodLink RX3 61 Lib.Math.min.name ∈ qW := qW_mem (i := 464) (by decide +kernel) (by decide +kernel)
theorem wml_X3_116 : Cond.methodLink RX3 116 yX0_anyGreen ∈ qW := qW_mem (i := 465) (by decide +kernel) (by decide +kernel)
theorem wim_X0_anyGreen : Cond.instanceMethod yX0_anyGreen ∈ qW := qW_mem (i := 466) (by decide +kernel) (by decide +kernel)
theorem wse_X0_anyGreen : Cond.selects RX0 yX0_anyGreen yX0_anyGreen ∈ qW := qW_mem (i := 467) (by decide +kernel) (by decide +kernel)
theorem wco_X0_anyGreen : Cond.code yX0_anyGreen cX0_anyGreen 3 (some .boolean) ∈ qW := qW_mem (i := 468) (by decide +kernel) (by decide +kernel)
theorem wml_X0_56 : Cond.methodLink RX0 56 yX8_greens ∈ qW := qW_mem (i := 469) (by decide +kernel) (by decide +kernel)
theorem wst_X8_greens : Cond.static yX8_greens ∈ qW := qW_mem (i := 470) (by decide +kernel) (by decide +kernel)
theorem win_X8 : Cond.initialized RX8 ∈ qW := qW_mem (i := 70) (by decide +kernel) (by decide +kernel)
theorem wco_X8_greens : Cond.code yX8_greens cX8_greens 3 (some .int) ∈ qW := qW_mem (i := 471) (by decide +kernel) (by decide +kernel)
theorem wml_L_30 : Cond.methodLink RL 30 yX10_told ∈ qW := qW_mem (i := 973) (by decide +kernel) (by decide +kernel)
theorem wim_X10_told : Cond.instanceMethod yX10_told ∈ qW := qW_mem (i := 974) (by decide +kernel) (by decide +kernel)
theorem wse_X10_told : Cond.selects RX10 yX10_told yX10_told ∈ qW := qW_mem (i := 975) (by decide +kernel) (by decide +kernel)
theorem wco_X10_told : Cond.code yX10_told cX10_told 2 (some .int) ∈ qW := qW_mem (i := 976) (by decide +kernel) (by decide +kernel)
theorem wml_X10_200 : Cond.methodLink RX10 200 yX10_contracts ∈ qW := qW_mem (i := 977) (by decide +kernel) (by decide +kernel)
theorem wim_X10_contracts : Cond.instanceMethod yX10_contracts ∈ qW := qW_mem (i := 979) (by decide +kernel) (by decide +kernel)
theorem wse_X10_contracts : Cond.selects RX10 yX10_contracts yX10_contracts ∈ qW := qW_mem (i := 34) (by decide +kernel) (by decide +kernel)
theorem wco_X10_contracts : Cond.code yX10_contracts cX10_contracts 5 (some .int) ∈ qW := qW_mem (i := 980) (by decide +kernel) (by decide +kernel)
theorem wml_X10_194 : Cond.methodLink RX10 194 yX10_has ∈ qW := qW_mem (i := 981) (by decide +kernel) (by decide +kernel)
theorem wst_X10_has : Cond.static yX10_has ∈ qW := qW_mem (i := 982) (by decide +kernel) (by decide +kernel)
theorem wco_X10_has : Cond.code yX10_has cX10_has 2 (some .boolean) ∈ qW := qW_mem (i := 983) (by decide +kernel) (by decide +kernel)
theorem wml_X10_197 : Cond.methodLink RX10 197 yX10_isGreen ∈ qW := qW_mem (i := 984) (by decide +kernel) (by decide +kernel)
theorem wim_X10_isGreen : Cond.instanceMethod yX10_isGreen ∈ qW := qW_mem (i := 986) (by decide +kernel) (by decide +kernel)
theorem wse_X10_isGreen : Cond.selects RX10 yX10_isGreen yX10_isGreen ∈ qW := qW_mem (i := 35) (by decide +kernel) (by decide +kernel)
theorem wco_X10_isGreen : Cond.code yX10_isGreen cX10_isGreen 4 (some .boolean) ∈ qW := qW_mem (i := 987) (by decide +kernel) (by decide +kernel)
theorem wml_L_31 : Cond.methodLink RL 31 yX9_house ∈ qW := qW_mem (i := 472) (by decide +kernel) (by decide +kernel)
theorem wim_X9_house : Cond.instanceMethod yX9_house ∈ qW := qW_mem (i := 473) (by decide +kernel) (by decide +kernel)
theorem wse_X9_house : Cond.selects RX9 yX9_house yX9_house ∈ qW := qW_mem (i := 474) (by decide +kernel) (by decide +kernel)
theorem wco_X9_house : Cond.code yX9_house cX9_house 3 (some .int) ∈ qW := qW_mem (i := 475) (by decide +kernel) (by decide +kernel)
theorem wk_X9_148 : Cond.constant RX9 148 (-1000000001) ∈ qW := qW_mem (i := 480) (by decide +kernel) (by decide +kernel)
theorem wfl_X9_149 : Cond.fieldLink RX9 149 "FireworkDeeds$Bay" "cell" "[I" ∈ qW := qW_mem (i := 114) (by decide +kernel) (by decide +kernel)
theorem wfl_X9_152 : Cond.fieldLink RX9 152 "FireworkDeeds$Bay" "powder" "[I" ∈ qW := qW_mem (i := 116) (by decide +kernel) (by decide +kernel)
theorem wfl_X9_155 : Cond.fieldLink RX9 155 "FireworkDeeds$Night" "rockets" "[I" ∈ qW := qW_mem (i := 193) (by decide +kernel) (by decide +kernel)
theorem wfl_X9_158 : Cond.fieldLink RX9 158 "FireworkDeeds$Bay" "stars" "[I" ∈ qW := qW_mem (i := 121) (by decide +kernel) (by decide +kernel)
theorem wfl_X9_165 : Cond.fieldLink RX9 165 "FireworkDeeds$Night" "signedAt" "[I" ∈ qW := qW_mem (i := 195) (by decide +kernel) (by decide +kernel)
theorem wfl_X9_168 : Cond.fieldLink RX9 168 "FireworkDeeds$Night" "signedOver" "[I" ∈ qW := qW_mem (i := 197) (by decide +kernel) (by decide +kernel)
theorem wml_X9_144 : Cond.methodLink RX9 144 yX0_has ∈ qW := qW_mem (i := 476) (by decide +kernel) (by decide +kernel)
theorem wim_X0_has : Cond.instanceMethod yX0_has ∈ qW := qW_mem (i := 477) (by decide +kernel) (by decide +kernel)
theorem wse_X0_has : Cond.selects RX0 yX0_has yX0_has ∈ qW := qW_mem (i := 478) (by decide +kernel) (by decide +kernel)
theorem wco_X0_has : Cond.code yX0_has cX0_has 2 (some .boolean) ∈ qW := qW_mem (i := 479) (by decide +kernel) (by decide +kernel)
theorem wml_X9_161 : Cond.methodLink RX9 161 yX8_count ∈ qW := qW_mem (i := 481) (by decide +kernel) (by decide +kernel)
theorem wst_X8_count : Cond.static yX8_count ∈ qW := qW_mem (i := 482) (by decide +kernel) (by decide +kernel)
theorem wco_X8_count : Cond.code yX8_count cX8_count 3 (some .int) ∈ qW := qW_mem (i := 483) (by decide +kernel) (by decide +kernel)
theorem wml_X9_171 : Cond.methodLink RX9 171 yX0_readAs ∈ qW := qW_mem (i := 484) (by decide +kernel) (by decide +kernel)
theorem wim_X0_readAs : Cond.instanceMethod yX0_readAs ∈ qW := qW_mem (i := 485) (by decide +kernel) (by decide +kernel)
theorem wse_X0_readAs : Cond.selects RX0 yX0_readAs yX0_readAs ∈ qW := qW_mem (i := 486) (by decide +kernel) (by decide +kernel)
theorem wco_X0_readAs : Cond.code yX0_readAs cX0_readAs 4 (some .int) ∈ qW := qW_mem (i := 487) (by decide +kernel) (by decide +kernel)
theorem wml_L_35 : Cond.methodLink RL 35 yX10_house ∈ qW := qW_mem (i := 988) (by decide +kernel) (by decide +kernel)
theorem wim_X10_house : Cond.instanceMethod yX10_house ∈ qW := qW_mem (i := 989) (by decide +kernel) (by decide +kernel)
theorem wse_X10_house : Cond.selects RX10 yX10_house yX10_house ∈ qW := qW_mem (i := 990) (by decide +kernel) (by decide +kernel)
theorem wco_X10_house : Cond.code yX10_house cX10_house 3 (some .int) ∈ qW := qW_mem (i := 991) (by decide +kernel) (by decide +kernel)
theorem wk_X10_207 : Cond.constant RX10 207 (-1000000001) ∈ qW := qW_mem (i := 996) (by decide +kernel) (by decide +kernel)
theorem wml_X10_204 : Cond.methodLink RX10 204 yX10_isHouse ∈ qW := qW_mem (i := 992) (by decide +kernel) (by decide +kernel)
theorem wim_X10_isHouse : Cond.instanceMethod yX10_isHouse ∈ qW := qW_mem (i := 994) (by decide +kernel) (by decide +kernel)
theorem wse_X10_isHouse : Cond.selects RX10 yX10_isHouse yX10_isHouse ∈ qW := qW_mem (i := 36) (by decide +kernel) (by decide +kernel)
theorem wco_X10_isHouse : Cond.code yX10_isHouse cX10_isHouse 2 (some .boolean) ∈ qW := qW_mem (i := 995) (by decide +kernel) (by decide +kernel)
theorem wml_X10_208 : Cond.methodLink RX10 208 yX10_starNumber ∈ qW := qW_mem (i := 997) (by decide +kernel) (by decide +kernel)
theorem wim_X10_starNumber : Cond.instanceMethod yX10_starNumber ∈ qW := qW_mem (i := 999) (by decide +kernel) (by decide +kernel)
theorem wse_X10_starNumber : Cond.selects RX10 yX10_starNumber yX10_starNumber ∈ qW := qW_mem (i := 37) (by decide +kernel) (by decide +kernel)
theorem wco_X10_starNumber : Cond.code yX10_starNumber cX10_starNumber 4 (some .int) ∈ qW := qW_mem (i := 1000) (by decide +kernel) (by decide +kernel)
theorem wml_X10_211 : Cond.methodLink RX10 211 yX10_readAs ∈ qW := qW_mem (i := 1001) (by decide +kernel) (by decide +kernel)
theorem wim_X10_readAs : Cond.instanceMethod yX10_readAs ∈ qW := qW_mem (i := 1003) (by decide +kernel) (by decide +kernel)
theorem wse_X10_readAs : Cond.selects RX10 yX10_readAs yX10_readAs ∈ qW := qW_mem (i := 38) (by decide +kernel) (by decide +kernel)
theorem wco_X10_readAs : Cond.code yX10_readAs cX10_readAs 5 (some .int) ∈ qW := qW_mem (i := 1004) (by decide +kernel) (by decide +kernel)
theorem wml_L_36 : Cond.methodLink RL 36 yX9_sees ∈ qW := qW_mem (i := 488) (by decide +kernel) (by decide +kernel)
theorem wim_X9_sees : Cond.instanceMethod yX9_sees ∈ qW := qW_mem (i := 489) (by decide +kernel) (by decide +kernel)
theorem wse_X9_sees : Cond.selects RX9 yX9_sees yX9_sees ∈ qW := qW_mem (i := 490) (by decide +kernel) (by decide +kernel)
theorem wco_X9_sees : Cond.code yX9_sees cX9_sees 3 (some .int) ∈ qW := qW_mem (i := 491) (by decide +kernel) (by decide +kernel)
theorem wml_X9_174 : Cond.methodLink RX9 174 yX0_hasTwo ∈ qW := qW_mem (i := 492) (by decide +kernel) (by decide +kernel)
theorem wim_X0_hasTwo : Cond.instanceMethod yX0_hasTwo ∈ qW := qW_mem (i := 493) (by decide +kernel) (by decide +kernel)
theorem wse_X0_hasTwo : Cond.selects RX0 yX0_hasTwo yX0_hasTwo ∈ qW := qW_mem (i := 494) (by decide +kernel) (by decide +kernel)
theorem wco_X0_hasTwo : Cond.code yX0_hasTwo cX0_hasTwo 3 (some .boolean) ∈ qW := qW_mem (i := 495) (by decide +kernel) (by decide +kernel)
theorem wml_X0_46 : Cond.methodLink RX0 46 yX0_has ∈ qW := qW_mem (i := 496) (by decide +kernel) (by decide +kernel)
theorem wml_X9_178 : Cond.methodLink RX9 178 yX3_viewers ∈ qW := qW_mem (i := 497) (by decide +kernel) (by decide +kernel)
theorem wim_X3_viewers : Cond.instanceMethod yX3_viewers ∈ qW := qW_mem (i := 498) (by decide +kernel) (by decide +kernel)
theorem wse_X3_viewers : Cond.selects RX3 yX3_viewers yX3_viewers ∈ qW := qW_mem (i := 499) (by decide +kernel) (by decide +kernel)
theorem wco_X3_viewers : Cond.code yX3_viewers cX3_viewers 3 (some .int) ∈ qW := qW_mem (i := 500) (by decide +kernel) (by decide +kernel)
theorem wml_X3_87 : Cond.methodLink RX3 87 yX3_hidden ∈ qW := qW_mem (i := 501) (by decide +kernel) (by decide +kernel)
theorem wim_X3_hidden : Cond.instanceMethod yX3_hidden ∈ qW := qW_mem (i := 502) (by decide +kernel) (by decide +kernel)
theorem wse_X3_hidden : Cond.selects RX3 yX3_hidden yX3_hidden ∈ qW := qW_mem (i := 503) (by decide +kernel) (by decide +kernel)
theorem wco_X3_hidden : Cond.code yX3_hidden cX3_hidden 6 (some .boolean) ∈ qW := qW_mem (i := 504) (by decide +kernel) (by decide +kernel)
theorem wfl_X3_84 : Cond.fieldLink RX3 84 "FireworkDeeds$Bay" "smoke" "I" ∈ qW := qW_mem (i := 102) (by decide +kernel) (by decide +kernel)
theorem wml_X3_70 : Cond.methodLink RX3 70 yX3_cellOver ∈ qW := qW_mem (i := 505) (by decide +kernel) (by decide +kernel)
theorem wim_X3_cellOver : Cond.instanceMethod yX3_cellOver ∈ qW := qW_mem (i := 506) (by decide +kernel) (by decide +kernel)
theorem wse_X3_cellOver : Cond.selects RX3 yX3_cellOver yX3_cellOver ∈ qW := qW_mem (i := 507) (by decide +kernel) (by decide +kernel)
theorem wco_X3_cellOver : Cond.code yX3_cellOver cX3_cellOver 3 (some .int) ∈ qW := qW_mem (i := 508) (by decide +kernel) (by decide +kernel)
theorem wfl_X3_55 : Cond.fieldLink RX3 55 "FireworkDeeds$Bay" "width" "I" ∈ qW := qW_mem (i := 91) (by decide +kernel) (by decide +kernel)
theorem wfl_X3_58 : Cond.fieldLink RX3 58 "FireworkDeeds$Bay" "cell" "[I" ∈ qW := qW_mem (i := 113) (by decide +kernel) (by decide +kernel)
theorem wml_X3_91 : Cond.methodLink RX3 91 yX3_inReach ∈ qW := qW_mem (i := 509) (by decide +kernel) (by decide +kernel)
theorem wim_X3_inReach : Cond.instanceMethod yX3_inReach ∈ qW := qW_mem (i := 510) (by decide +kernel) (by decide +kernel)
theorem wse_X3_inReach : Cond.selects RX3 yX3_inReach yX3_inReach ∈ qW := qW_mem (i := 511) (by decide +kernel) (by decide +kernel)
theorem wco_X3_inReach : Cond.code yX3_inReach cX3_inReach 7 (some .int) ∈ qW := qW_mem (i := 512) (by decide +kernel) (by decide +kernel)
theorem wml_X3_80 : Cond.methodLink RX3 80 Lib.Math.abs.name ∈ qW := qW_mem (i := 517) (by decide +kernel) (by decide +kernel)
theorem wst_Mabs : Cond.static Lib.Math.abs.name ∈ qW := qW_mem (i := 518) (by decide +kernel) (by decide +kernel)
theorem wco_Mabs : Cond.code Lib.Math.abs.name Lib.Math.abs.code 1 (some .int) ∈ qW := qW_mem (i := 519) (by decide +kernel) (by decide +kernel)
theorem wml_X3_77 : Cond.methodLink RX3 77 yX3_reach ∈ qW := qW_mem (i := 513) (by decide +kernel) (by decide +kernel)
theorem wim_X3_reach : Cond.instanceMethod yX3_reach ∈ qW := qW_mem (i := 514) (by decide +kernel) (by decide +kernel)
theorem wse_X3_reach : Cond.selects RX3 yX3_reach yX3_reach ∈ qW := qW_mem (i := 515) (by decide +kernel) (by decide +kernel)
theorem wco_X3_reach : Cond.code yX3_reach cX3_reach 3 (some .int) ∈ qW := qW_mem (i := 516) (by decide +kernel) (by decide +kernel)
theorem wfl_X3_74 : Cond.fieldLink RX3 74 "FireworkDeeds$Bay" "powder" "[I" ∈ qW := qW_mem (i := 117) (by decide +kernel) (by decide +kernel)
theorem wml_L_39 : Cond.methodLink RL 39 yX10_sees ∈ qW := qW_mem (i := 1005) (by decide +kernel) (by decide +kernel)
theorem wim_X10_sees : Cond.instanceMethod yX10_sees ∈ qW := qW_mem (i := 1006) (by decide +kernel) (by decide +kernel)
theorem wse_X10_sees : Cond.selects RX10 yX10_sees yX10_sees ∈ qW := qW_mem (i := 1007) (by decide +kernel) (by decide +kernel)
theorem wco_X10_sees : Cond.code yX10_sees cX10_sees 3 (some .int) ∈ qW := qW_mem (i := 1008) (by decide +kernel) (by decide +kernel)
theorem wml_X10_226 : Cond.methodLink RX10 226 yX10_areTwo ∈ qW := qW_mem (i := 1009) (by decide +kernel) (by decide +kernel)
theorem wim_X10_areTwo : Cond.instanceMethod yX10_areTwo ∈ qW := qW_mem (i := 1011) (by decide +kernel) (by decide +kernel)
theorem wse_X10_areTwo : Cond.selects RX10 yX10_areTwo yX10_areTwo ∈ qW := qW_mem (i := 39) (by decide +kernel) (by decide +kernel)
theorem wco_X10_areTwo : Cond.code yX10_areTwo cX10_areTwo 3 (some .boolean) ∈ qW := qW_mem (i := 1012) (by decide +kernel) (by decide +kernel)
theorem wml_X10_229 : Cond.methodLink RX10 229 yX10_seers ∈ qW := qW_mem (i := 1013) (by decide +kernel) (by decide +kernel)
theorem wim_X10_seers : Cond.instanceMethod yX10_seers ∈ qW := qW_mem (i := 1015) (by decide +kernel) (by decide +kernel)
theorem wse_X10_seers : Cond.selects RX10 yX10_seers yX10_seers ∈ qW := qW_mem (i := 40) (by decide +kernel) (by decide +kernel)
theorem wco_X10_seers : Cond.code yX10_seers cX10_seers 5 (some .int) ∈ qW := qW_mem (i := 1016) (by decide +kernel) (by decide +kernel)
theorem wml_X10_214 : Cond.methodLink RX10 214 yX10_overOf ∈ qW := qW_mem (i := 1017) (by decide +kernel) (by decide +kernel)
theorem wim_X10_overOf : Cond.instanceMethod yX10_overOf ∈ qW := qW_mem (i := 1019) (by decide +kernel) (by decide +kernel)
theorem wse_X10_overOf : Cond.selects RX10 yX10_overOf yX10_overOf ∈ qW := qW_mem (i := 41) (by decide +kernel) (by decide +kernel)
theorem wco_X10_overOf : Cond.code yX10_overOf cX10_overOf 3 (some .int) ∈ qW := qW_mem (i := 1020) (by decide +kernel) (by decide +kernel)
theorem wml_X10_217 : Cond.methodLink RX10 217 yX10_apart ∈ qW := qW_mem (i := 1021) (by decide +kernel) (by decide +kernel)
theorem wst_X10_apart : Cond.static yX10_apart ∈ qW := qW_mem (i := 1022) (by decide +kernel) (by decide +kernel)
theorem wco_X10_apart : Cond.code yX10_apart cX10_apart 2 (some .int) ∈ qW := qW_mem (i := 1023) (by decide +kernel) (by decide +kernel)
theorem wml_X10_220 : Cond.methodLink RX10 220 yX10_reach ∈ qW := qW_mem (i := 1024) (by decide +kernel) (by decide +kernel)
theorem wim_X10_reach : Cond.instanceMethod yX10_reach ∈ qW := qW_mem (i := 1026) (by decide +kernel) (by decide +kernel)
theorem wse_X10_reach : Cond.selects RX10 yX10_reach yX10_reach ∈ qW := qW_mem (i := 42) (by decide +kernel) (by decide +kernel)
theorem wco_X10_reach : Cond.code yX10_reach cX10_reach 2 (some .int) ∈ qW := qW_mem (i := 1027) (by decide +kernel) (by decide +kernel)
theorem wml_X10_223 : Cond.methodLink RX10 223 yX10_isHidden ∈ qW := qW_mem (i := 1028) (by decide +kernel) (by decide +kernel)
theorem wim_X10_isHidden : Cond.instanceMethod yX10_isHidden ∈ qW := qW_mem (i := 1030) (by decide +kernel) (by decide +kernel)
theorem wse_X10_isHidden : Cond.selects RX10 yX10_isHidden yX10_isHidden ∈ qW := qW_mem (i := 43) (by decide +kernel) (by decide +kernel)
theorem wco_X10_isHidden : Cond.code yX10_isHidden cX10_isHidden 5 (some .boolean) ∈ qW := qW_mem (i := 1031) (by decide +kernel) (by decide +kernel)
theorem wml_L_40 : Cond.methodLink RL 40 yX9_contract ∈ qW := qW_mem (i := 520) (by decide +kernel) (by decide +kernel)
theorem wim_X9_contract : Cond.instanceMethod yX9_contract ∈ qW := qW_mem (i := 521) (by decide +kernel) (by decide +kernel)
theorem wse_X9_contract : Cond.selects RX9 yX9_contract yX9_contract ∈ qW := qW_mem (i := 522) (by decide +kernel) (by decide +kernel)
theorem wco_X9_contract : Cond.code yX9_contract cX9_contract 3 (some .int) ∈ qW := qW_mem (i := 523) (by decide +kernel) (by decide +kernel)
theorem wml_X9_182 : Cond.methodLink RX9 182 yX3_holdsFor ∈ qW := qW_mem (i := 524) (by decide +kernel) (by decide +kernel)
theorem wml_X9_185 : Cond.methodLink RX9 185 yX0_anyGreen ∈ qW := qW_mem (i := 525) (by decide +kernel) (by decide +kernel)
theorem wml_L_43 : Cond.methodLink RL 43 yX10_contract ∈ qW := qW_mem (i := 1032) (by decide +kernel) (by decide +kernel)
theorem wim_X10_contract : Cond.instanceMethod yX10_contract ∈ qW := qW_mem (i := 1033) (by decide +kernel) (by decide +kernel)
theorem wse_X10_contract : Cond.selects RX10 yX10_contract yX10_contract ∈ qW := qW_mem (i := 1034) (by decide +kernel) (by decide +kernel)
theorem wco_X10_contract : Cond.code yX10_contract cX10_contract 3 (some .int) ∈ qW := qW_mem (i := 1035) (by decide +kernel) (by decide +kernel)
theorem wml_L_44 : Cond.methodLink RL 44 yX9_light ∈ qW := qW_mem (i := 526) (by decide +kernel) (by decide +kernel)
theorem wim_X9_light : Cond.instanceMethod yX9_light ∈ qW := qW_mem (i := 527) (by decide +kernel) (by decide +kernel)
theorem wse_X9_light : Cond.selects RX9 yX9_light yX9_light ∈ qW := qW_mem (i := 528) (by decide +kernel) (by decide +kernel)
theorem wco_X9_light : Cond.code yX9_light cX9_light 2 (some .int) ∈ qW := qW_mem (i := 529) (by decide +kernel) (by decide +kernel)
theorem wk_X9_188 : Cond.constant RX9 188 (-1000000003) ∈ qW := qW_mem (i := 530) (by decide +kernel) (by decide +kernel)
theorem wml_X9_189 : Cond.methodLink RX9 189 yX5_push ∈ qW := qW_mem (i := 531) (by decide +kernel) (by decide +kernel)
theorem wim_X5_push : Cond.instanceMethod yX5_push ∈ qW := qW_mem (i := 532) (by decide +kernel) (by decide +kernel)
theorem wse_X5_push : Cond.selects RX5 yX5_push yX5_push ∈ qW := qW_mem (i := 533) (by decide +kernel) (by decide +kernel)
theorem wco_X5_push : Cond.code yX5_push cX5_push 2 none ∈ qW := qW_mem (i := 534) (by decide +kernel) (by decide +kernel)
theorem wml_X5_29 : Cond.methodLink RX5 29 Lib.Math.min.name ∈ qW := qW_mem (i := 543) (by decide +kernel) (by decide +kernel)
theorem wml_X5_25 : Cond.methodLink RX5 25 yX3_become ∈ qW := qW_mem (i := 535) (by decide +kernel) (by decide +kernel)
theorem wim_X3_become : Cond.instanceMethod yX3_become ∈ qW := qW_mem (i := 536) (by decide +kernel) (by decide +kernel)
theorem wse_X3_become : Cond.selects RX3 yX3_become yX3_become ∈ qW := qW_mem (i := 537) (by decide +kernel) (by decide +kernel)
theorem wco_X3_become : Cond.code yX3_become cX3_become 3 none ∈ qW := qW_mem (i := 538) (by decide +kernel) (by decide +kernel)
theorem wml_X3_51 : Cond.methodLink RX3 51 yX3_signedAs ∈ qW := qW_mem (i := 539) (by decide +kernel) (by decide +kernel)
theorem wim_X3_signedAs : Cond.instanceMethod yX3_signedAs ∈ qW := qW_mem (i := 540) (by decide +kernel) (by decide +kernel)
theorem wse_X3_signedAs : Cond.selects RX3 yX3_signedAs yX3_signedAs ∈ qW := qW_mem (i := 541) (by decide +kernel) (by decide +kernel)
theorem wco_X3_signedAs : Cond.code yX3_signedAs cX3_signedAs 3 none ∈ qW := qW_mem (i := 542) (by decide +kernel) (by decide +kernel)
theorem wml_X9_193 : Cond.methodLink RX9 193 yX3_sign ∈ qW := qW_mem (i := 544) (by decide +kernel) (by decide +kernel)
theorem wim_X3_sign : Cond.instanceMethod yX3_sign ∈ qW := qW_mem (i := 545) (by decide +kernel) (by decide +kernel)
theorem wse_X3_sign : Cond.selects RX3 yX3_sign yX3_sign ∈ qW := qW_mem (i := 546) (by decide +kernel) (by decide +kernel)
theorem wco_X3_sign : Cond.code yX3_sign cX3_sign 3 none ∈ qW := qW_mem (i := 547) (by decide +kernel) (by decide +kernel)
theorem wml_X3_94 : Cond.methodLink RX3 94 yX3_viewers ∈ qW := qW_mem (i := 548) (by decide +kernel) (by decide +kernel)
theorem wml_X9_197 : Cond.methodLink RX9 197 yX3_agree ∈ qW := qW_mem (i := 549) (by decide +kernel) (by decide +kernel)
theorem wim_X3_agree : Cond.instanceMethod yX3_agree ∈ qW := qW_mem (i := 550) (by decide +kernel) (by decide +kernel)
theorem wse_X3_agree : Cond.selects RX3 yX3_agree yX3_agree ∈ qW := qW_mem (i := 551) (by decide +kernel) (by decide +kernel)
theorem wco_X3_agree : Cond.code yX3_agree cX3_agree 5 (some .int) ∈ qW := qW_mem (i := 552) (by decide +kernel) (by decide +kernel)
theorem wml_X3_97 : Cond.methodLink RX3 97 yJ6_bitCount_0f7a4 ∈ qW := qW_mem (i := 553) (by decide +kernel) (by decide +kernel)
theorem wml_X3_102 : Cond.methodLink RX3 102 yX3_meet ∈ qW := qW_mem (i := 554) (by decide +kernel) (by decide +kernel)
theorem wim_X3_meet : Cond.instanceMethod yX3_meet ∈ qW := qW_mem (i := 556) (by decide +kernel) (by decide +kernel)
theorem wse_X3_meet : Cond.selects RX3 yX3_meet yX3_meet ∈ qW := qW_mem (i := 11) (by decide +kernel) (by decide +kernel)
theorem wco_X3_meet : Cond.code yX3_meet cX3_meet 7 none ∈ qW := qW_mem (i := 557) (by decide +kernel) (by decide +kernel)
theorem wml_X3_106 : Cond.methodLink RX3 106 yX0_readAs ∈ qW := qW_mem (i := 558) (by decide +kernel) (by decide +kernel)
theorem wml_L_47 : Cond.methodLink RL 47 yX10_light ∈ qW := qW_mem (i := 1036) (by decide +kernel) (by decide +kernel)
theorem wim_X10_light : Cond.instanceMethod yX10_light ∈ qW := qW_mem (i := 1037) (by decide +kernel) (by decide +kernel)
theorem wse_X10_light : Cond.selects RX10 yX10_light yX10_light ∈ qW := qW_mem (i := 1038) (by decide +kernel) (by decide +kernel)
theorem wco_X10_light : Cond.code yX10_light cX10_light 5 (some .int) ∈ qW := qW_mem (i := 1039) (by decide +kernel) (by decide +kernel)
theorem wk_X10_232 : Cond.constant RX10 232 (-1000000003) ∈ qW := qW_mem (i := 1040) (by decide +kernel) (by decide +kernel)
theorem wml_X10_233 : Cond.methodLink RX10 233 yX10_remember ∈ qW := qW_mem (i := 1041) (by decide +kernel) (by decide +kernel)
theorem wim_X10_remember : Cond.instanceMethod yX10_remember ∈ qW := qW_mem (i := 1043) (by decide +kernel) (by decide +kernel)
theorem wse_X10_remember : Cond.selects RX10 yX10_remember yX10_remember ∈ qW := qW_mem (i := 44) (by decide +kernel) (by decide +kernel)
theorem wco_X10_remember : Cond.code yX10_remember cX10_remember 2 none ∈ qW := qW_mem (i := 1044) (by decide +kernel) (by decide +kernel)
theorem wml_X10_236 : Cond.methodLink RX10 236 yX10_lightNow ∈ qW := qW_mem (i := 1045) (by decide +kernel) (by decide +kernel)
theorem wim_X10_lightNow : Cond.instanceMethod yX10_lightNow ∈ qW := qW_mem (i := 1047) (by decide +kernel) (by decide +kernel)
theorem wse_X10_lightNow : Cond.selects RX10 yX10_lightNow yX10_lightNow ∈ qW := qW_mem (i := 45) (by decide +kernel) (by decide +kernel)
theorem wco_X10_lightNow : Cond.code yX10_lightNow cX10_lightNow 3 none ∈ qW := qW_mem (i := 1048) (by decide +kernel) (by decide +kernel)
theorem wml_X10_240 : Cond.methodLink RX10 240 yX10_holds ∈ qW := qW_mem (i := 1049) (by decide +kernel) (by decide +kernel)
theorem wim_X10_holds : Cond.instanceMethod yX10_holds ∈ qW := qW_mem (i := 1051) (by decide +kernel) (by decide +kernel)
theorem wse_X10_holds : Cond.selects RX10 yX10_holds yX10_holds ∈ qW := qW_mem (i := 46) (by decide +kernel) (by decide +kernel)
theorem wco_X10_holds : Cond.code yX10_holds cX10_holds 6 (some .boolean) ∈ qW := qW_mem (i := 1052) (by decide +kernel) (by decide +kernel)
theorem wml_L_48 : Cond.methodLink RL 48 yX9_minute ∈ qW := qW_mem (i := 559) (by decide +kernel) (by decide +kernel)
theorem wim_X9_minute : Cond.instanceMethod yX9_minute ∈ qW := qW_mem (i := 560) (by decide +kernel) (by decide +kernel)
theorem wse_X9_minute : Cond.selects RX9 yX9_minute yX9_minute ∈ qW := qW_mem (i := 561) (by decide +kernel) (by decide +kernel)
theorem wco_X9_minute : Cond.code yX9_minute cX9_minute 3 (some .int) ∈ qW := qW_mem (i := 562) (by decide +kernel) (by decide +kernel)
theorem wml_X9_200 : Cond.methodLink RX9 200 yX9_refusalOfMinutes ∈ qW := qW_mem (i := 563) (by decide +kernel) (by decide +kernel)
theorem wim_X9_refusalOfMinutes : Cond.instanceMethod yX9_refusalOfMinutes ∈ qW := qW_mem (i := 565) (by decide +kernel) (by decide +kernel)
theorem wse_X9_refusalOfMinutes : Cond.selects RX9 yX9_refusalOfMinutes yX9_refusalOfMinutes ∈ qW := qW_mem (i := 12) (by decide +kernel) (by decide +kernel)
theorem wco_X9_refusalOfMinutes : Cond.code yX9_refusalOfMinutes cX9_refusalOfMinutes 2 (some .int) ∈ qW := qW_mem (i := 566) (by decide +kernel) (by decide +kernel)
theorem wk_X9_287 : Cond.constant RX9 287 (90000) ∈ qW := qW_mem (i := 567) (by decide +kernel) (by decide +kernel)
theorem wml_L_51 : Cond.methodLink RL 51 yX10_minute ∈ qW := qW_mem (i := 1053) (by decide +kernel) (by decide +kernel)
theorem wim_X10_minute : Cond.instanceMethod yX10_minute ∈ qW := qW_mem (i := 1054) (by decide +kernel) (by decide +kernel)
theorem wse_X10_minute : Cond.selects RX10 yX10_minute yX10_minute ∈ qW := qW_mem (i := 1055) (by decide +kernel) (by decide +kernel)
theorem wco_X10_minute : Cond.code yX10_minute cX10_minute 3 (some .int) ∈ qW := qW_mem (i := 1056) (by decide +kernel) (by decide +kernel)
theorem wml_X10_246 : Cond.methodLink RX10 246 yX10_minutesRefused ∈ qW := qW_mem (i := 1057) (by decide +kernel) (by decide +kernel)
theorem wim_X10_minutesRefused : Cond.instanceMethod yX10_minutesRefused ∈ qW := qW_mem (i := 1059) (by decide +kernel) (by decide +kernel)
theorem wse_X10_minutesRefused : Cond.selects RX10 yX10_minutesRefused yX10_minutesRefused ∈ qW := qW_mem (i := 47) (by decide +kernel) (by decide +kernel)
theorem wco_X10_minutesRefused : Cond.code yX10_minutesRefused cX10_minutesRefused 2 (some .int) ∈ qW := qW_mem (i := 1060) (by decide +kernel) (by decide +kernel)
theorem wkl_X10_243 : Cond.constantLong RX10 243 (99) ∈ qW := qW_mem (i := 1061) (by decide +kernel) (by decide +kernel)
theorem wk_X10_245 : Cond.constant RX10 245 (90000) ∈ qW := qW_mem (i := 1062) (by decide +kernel) (by decide +kernel)
theorem wml_L_52 : Cond.methodLink RL 52 yX9_fog ∈ qW := qW_mem (i := 568) (by decide +kernel) (by decide +kernel)
theorem wim_X9_fog : Cond.instanceMethod yX9_fog ∈ qW := qW_mem (i := 569) (by decide +kernel) (by decide +kernel)
theorem wse_X9_fog : Cond.selects RX9 yX9_fog yX9_fog ∈ qW := qW_mem (i := 570) (by decide +kernel) (by decide +kernel)
theorem wco_X9_fog : Cond.code yX9_fog cX9_fog 3 (some .int) ∈ qW := qW_mem (i := 571) (by decide +kernel) (by decide +kernel)
theorem wml_L_55 : Cond.methodLink RL 55 yX10_fog ∈ qW := qW_mem (i := 1063) (by decide +kernel) (by decide +kernel)
theorem wim_X10_fog : Cond.instanceMethod yX10_fog ∈ qW := qW_mem (i := 1064) (by decide +kernel) (by decide +kernel)
theorem wse_X10_fog : Cond.selects RX10 yX10_fog yX10_fog ∈ qW := qW_mem (i := 1065) (by decide +kernel) (by decide +kernel)
theorem wco_X10_fog : Cond.code yX10_fog cX10_fog 3 (some .int) ∈ qW := qW_mem (i := 1066) (by decide +kernel) (by decide +kernel)
theorem wkl_X10_249 : Cond.constantLong RX10 249 (20) ∈ qW := qW_mem (i := 1067) (by decide +kernel) (by decide +kernel)
theorem wml_L_56 : Cond.methodLink RL 56 yX9_wind ∈ qW := qW_mem (i := 572) (by decide +kernel) (by decide +kernel)
theorem wim_X9_wind : Cond.instanceMethod yX9_wind ∈ qW := qW_mem (i := 573) (by decide +kernel) (by decide +kernel)
theorem wse_X9_wind : Cond.selects RX9 yX9_wind yX9_wind ∈ qW := qW_mem (i := 574) (by decide +kernel) (by decide +kernel)
theorem wco_X9_wind : Cond.code yX9_wind cX9_wind 3 (some .int) ∈ qW := qW_mem (i := 575) (by decide +kernel) (by decide +kernel)
theorem wml_L_59 : Cond.methodLink RL 59 yX10_wind ∈ qW := qW_mem (i := 1068) (by decide +kernel) (by decide +kernel)
theorem wim_X10_wind : Cond.instanceMethod yX10_wind ∈ qW := qW_mem (i := 1069) (by decide +kernel) (by decide +kernel)
theorem wse_X10_wind : Cond.selects RX10 yX10_wind yX10_wind ∈ qW := qW_mem (i := 1070) (by decide +kernel) (by decide +kernel)
theorem wco_X10_wind : Cond.code yX10_wind cX10_wind 3 (some .int) ∈ qW := qW_mem (i := 1071) (by decide +kernel) (by decide +kernel)
theorem wkl_X10_251 : Cond.constantLong RX10 251 (-5) ∈ qW := qW_mem (i := 1072) (by decide +kernel) (by decide +kernel)
theorem wkl_X10_253 : Cond.constantLong RX10 253 (5) ∈ qW := qW_mem (i := 1073) (by decide +kernel) (by decide +kernel)
theorem wml_L_60 : Cond.methodLink RL 60 yX9_drift ∈ qW := qW_mem (i := 576) (by decide +kernel) (by decide +kernel)
theorem wim_X9_drift : Cond.instanceMethod yX9_drift ∈ qW := qW_mem (i := 577) (by decide +kernel) (by decide +kernel)
theorem wse_X9_drift : Cond.selects RX9 yX9_drift yX9_drift ∈ qW := qW_mem (i := 578) (by decide +kernel) (by decide +kernel)
theorem wco_X9_drift : Cond.code yX9_drift cX9_drift 4 (some .int) ∈ qW := qW_mem (i := 579) (by decide +kernel) (by decide +kernel)
theorem wml_X9_203 : Cond.methodLink RX9 203 yX9_changeWeather ∈ qW := qW_mem (i := 580) (by decide +kernel) (by decide +kernel)
theorem wim_X9_changeWeather : Cond.instanceMethod yX9_changeWeather ∈ qW := qW_mem (i := 582) (by decide +kernel) (by decide +kernel)
theorem wse_X9_changeWeather : Cond.selects RX9 yX9_changeWeather yX9_changeWeather ∈ qW := qW_mem (i := 13) (by decide +kernel) (by decide +kernel)
theorem wco_X9_changeWeather : Cond.code yX9_changeWeather cX9_changeWeather 2 none ∈ qW := qW_mem (i := 583) (by decide +kernel) (by decide +kernel)
theorem wml_X9_288 : Cond.methodLink RX9 288 yX9_draw ∈ qW := qW_mem (i := 584) (by decide +kernel) (by decide +kernel)
theorem wim_X9_draw : Cond.instanceMethod yX9_draw ∈ qW := qW_mem (i := 586) (by decide +kernel) (by decide +kernel)
theorem wse_X9_draw : Cond.selects RX9 yX9_draw yX9_draw ∈ qW := qW_mem (i := 14) (by decide +kernel) (by decide +kernel)
theorem wco_X9_draw : Cond.code yX9_draw cX9_draw 2 (some .int) ∈ qW := qW_mem (i := 587) (by decide +kernel) (by decide +kernel)
theorem wkl_X9_291 : Cond.constantLong RX9 291 (1103515245) ∈ qW := qW_mem (i := 588) (by decide +kernel) (by decide +kernel)
theorem wkl_X9_293 : Cond.constantLong RX9 293 (12345) ∈ qW := qW_mem (i := 589) (by decide +kernel) (by decide +kernel)
theorem wkl_X9_295 : Cond.constantLong RX9 295 (2147483647) ∈ qW := qW_mem (i := 590) (by decide +kernel) (by decide +kernel)
theorem wk_X9_297 : Cond.constant RX9 297 (65536) ∈ qW := qW_mem (i := 591) (by decide +kernel) (by decide +kernel)
theorem wml_L_63 : Cond.methodLink RL 63 yX10_drift ∈ qW := qW_mem (i := 1074) (by decide +kernel) (by decide +kernel)
theorem wim_X10_drift : Cond.instanceMethod yX10_drift ∈ qW := qW_mem (i := 1075) (by decide +kernel) (by decide +kernel)
theorem wse_X10_drift : Cond.selects RX10 yX10_drift yX10_drift ∈ qW := qW_mem (i := 1076) (by decide +kernel) (by decide +kernel)
theorem wco_X10_drift : Cond.code yX10_drift cX10_drift 5 (some .int) ∈ qW := qW_mem (i := 1077) (by decide +kernel) (by decide +kernel)
theorem wml_X10_265 : Cond.methodLink RX10 265 yX10_draw ∈ qW := qW_mem (i := 1078) (by decide +kernel) (by decide +kernel)
theorem wim_X10_draw : Cond.instanceMethod yX10_draw ∈ qW := qW_mem (i := 1080) (by decide +kernel) (by decide +kernel)
theorem wse_X10_draw : Cond.selects RX10 yX10_draw yX10_draw ∈ qW := qW_mem (i := 48) (by decide +kernel) (by decide +kernel)
theorem wco_X10_draw : Cond.code yX10_draw cX10_draw 2 (some .int) ∈ qW := qW_mem (i := 1081) (by decide +kernel) (by decide +kernel)
theorem wfl_X10_255 : Cond.fieldLink RX10 255 "FireworkDeedsModel" "seed" "I" ∈ qW := qW_mem (i := 785) (by decide +kernel) (by decide +kernel)
theorem wkl_X10_258 : Cond.constantLong RX10 258 (1103515245) ∈ qW := qW_mem (i := 1082) (by decide +kernel) (by decide +kernel)
theorem wkl_X10_260 : Cond.constantLong RX10 260 (12345) ∈ qW := qW_mem (i := 1083) (by decide +kernel) (by decide +kernel)
theorem wkl_X10_262 : Cond.constantLong RX10 262 (2147483648) ∈ qW := qW_mem (i := 1084) (by decide +kernel) (by decide +kernel)
theorem wk_X10_264 : Cond.constant RX10 264 (65536) ∈ qW := qW_mem (i := 1085) (by decide +kernel) (by decide +kernel)
theorem wml_L_64 : Cond.methodLink RL 64 yX9_undo ∈ qW := qW_mem (i := 592) (by decide +kernel) (by decide +kernel)
theorem wim_X9_undo : Cond.instanceMethod yX9_undo ∈ qW := qW_mem (i := 593) (by decide +kernel) (by decide +kernel)
theorem wse_X9_undo : Cond.selects RX9 yX9_undo yX9_undo ∈ qW := qW_mem (i := 594) (by decide +kernel) (by decide +kernel)
theorem wco_X9_undo : Cond.code yX9_undo cX9_undo 1 (some .int) ∈ qW := qW_mem (i := 595) (by decide +kernel) (by decide +kernel)
theorem wml_X9_206 : Cond.methodLink RX9 206 yX5_pop ∈ qW := qW_mem (i := 596) (by decide +kernel) (by decide +kernel)
theorem wim_X5_pop : Cond.instanceMethod yX5_pop ∈ qW := qW_mem (i := 597) (by decide +kernel) (by decide +kernel)
theorem wse_X5_pop : Cond.selects RX5 yX5_pop yX5_pop ∈ qW := qW_mem (i := 598) (by decide +kernel) (by decide +kernel)
theorem wco_X5_pop : Cond.code yX5_pop cX5_pop 2 none ∈ qW := qW_mem (i := 599) (by decide +kernel) (by decide +kernel)
theorem wml_L_67 : Cond.methodLink RL 67 yX10_undo ∈ qW := qW_mem (i := 1086) (by decide +kernel) (by decide +kernel)
theorem wim_X10_undo : Cond.instanceMethod yX10_undo ∈ qW := qW_mem (i := 1087) (by decide +kernel) (by decide +kernel)
theorem wse_X10_undo : Cond.selects RX10 yX10_undo yX10_undo ∈ qW := qW_mem (i := 1088) (by decide +kernel) (by decide +kernel)
theorem wco_X10_undo : Cond.code yX10_undo cX10_undo 2 (some .int) ∈ qW := qW_mem (i := 1089) (by decide +kernel) (by decide +kernel)
theorem wml_L_68 : Cond.methodLink RL 68 yX9_order ∈ qW := qW_mem (i := 600) (by decide +kernel) (by decide +kernel)
theorem wim_X9_order : Cond.instanceMethod yX9_order ∈ qW := qW_mem (i := 601) (by decide +kernel) (by decide +kernel)
theorem wse_X9_order : Cond.selects RX9 yX9_order yX9_order ∈ qW := qW_mem (i := 602) (by decide +kernel) (by decide +kernel)
theorem wco_X9_order : Cond.code yX9_order cX9_order 4 (some .int) ∈ qW := qW_mem (i := 603) (by decide +kernel) (by decide +kernel)
theorem wfl_X9_216 : Cond.fieldLink RX9 216 "FireworkDeeds$Row" "houses" "[I" ∈ qW := qW_mem (i := 249) (by decide +kernel) (by decide +kernel)
theorem wml_X9_209 : Cond.methodLink RX9 209 yX0_hasAll ∈ qW := qW_mem (i := 604) (by decide +kernel) (by decide +kernel)
theorem wim_X0_hasAll : Cond.instanceMethod yX0_hasAll ∈ qW := qW_mem (i := 605) (by decide +kernel) (by decide +kernel)
theorem wse_X0_hasAll : Cond.selects RX0 yX0_hasAll yX0_hasAll ∈ qW := qW_mem (i := 606) (by decide +kernel) (by decide +kernel)
theorem wco_X0_hasAll : Cond.code yX0_hasAll cX0_hasAll 2 (some .boolean) ∈ qW := qW_mem (i := 607) (by decide +kernel) (by decide +kernel)
theorem wml_X9_212 : Cond.methodLink RX9 212 yX7_find ∈ qW := qW_mem (i := 608) (by decide +kernel) (by decide +kernel)
theorem wim_X7_find : Cond.instanceMethod yX7_find ∈ qW := qW_mem (i := 609) (by decide +kernel) (by decide +kernel)
theorem wse_X7_find : Cond.selects RX7 yX7_find yX7_find ∈ qW := qW_mem (i := 610) (by decide +kernel) (by decide +kernel)
theorem wco_X7_find : Cond.code yX7_find cX7_find 5 (some .boolean) ∈ qW := qW_mem (i := 611) (by decide +kernel) (by decide +kernel)
theorem wfl_X7_22 : Cond.fieldLink RX7 22 "FireworkDeeds$Bay" "count" "I" ∈ qW := qW_mem (i := 106) (by decide +kernel) (by decide +kernel)
theorem wml_X7_28 : Cond.methodLink RX7 28 yX3_inReach ∈ qW := qW_mem (i := 612) (by decide +kernel) (by decide +kernel)
theorem wml_X7_32 : Cond.methodLink RX7 32 yJ6_bitCount_0f7a4 ∈ qW := qW_mem (i := 613) (by decide +kernel) (by decide +kernel)
theorem wml_X7_38 : Cond.methodLink RX7 38 yX3_become ∈ qW := qW_mem (i := 614) (by decide +kernel) (by decide +kernel)
theorem wml_X7_42 : Cond.methodLink RX7 42 yX7_extend ∈ qW := qW_mem (i := 615) (by decide +kernel) (by decide +kernel)
theorem wim_X7_extend : Cond.instanceMethod yX7_extend ∈ qW := qW_mem (i := 617) (by decide +kernel) (by decide +kernel)
theorem wse_X7_extend : Cond.selects RX7 yX7_extend yX7_extend ∈ qW := qW_mem (i := 15) (by decide +kernel) (by decide +kernel)
theorem wco_X7_extend : Cond.code yX7_extend cX7_extend 6 (some .boolean) ∈ qW := qW_mem (i := 618) (by decide +kernel) (by decide +kernel)
theorem wfl_X7_46 : Cond.fieldLink RX7 46 "FireworkDeeds$Night" "minutes" "I" ∈ qW := qW_mem (i := 183) (by decide +kernel) (by decide +kernel)
theorem wml_X7_49 : Cond.methodLink RX7 49 yX7_fits ∈ qW := qW_mem (i := 619) (by decide +kernel) (by decide +kernel)
theorem wim_X7_fits : Cond.instanceMethod yX7_fits ∈ qW := qW_mem (i := 621) (by decide +kernel) (by decide +kernel)
theorem wse_X7_fits : Cond.selects RX7 yX7_fits yX7_fits ∈ qW := qW_mem (i := 16) (by decide +kernel) (by decide +kernel)
theorem wco_X7_fits : Cond.code yX7_fits cX7_fits 4 (some .boolean) ∈ qW := qW_mem (i := 622) (by decide +kernel) (by decide +kernel)
theorem wml_X7_61 : Cond.methodLink RX7 61 yX0_apart ∈ qW := qW_mem (i := 623) (by decide +kernel) (by decide +kernel)
theorem wim_X0_apart : Cond.instanceMethod yX0_apart ∈ qW := qW_mem (i := 624) (by decide +kernel) (by decide +kernel)
theorem wse_X0_apart : Cond.selects RX0 yX0_apart yX0_apart ∈ qW := qW_mem (i := 625) (by decide +kernel) (by decide +kernel)
theorem wco_X0_apart : Cond.code yX0_apart cX0_apart 3 (some .int) ∈ qW := qW_mem (i := 626) (by decide +kernel) (by decide +kernel)
theorem wml_X0_50 : Cond.methodLink RX0 50 Lib.Math.abs.name ∈ qW := qW_mem (i := 627) (by decide +kernel) (by decide +kernel)
theorem wml_X7_65 : Cond.methodLink RX7 65 yX3_hidden ∈ qW := qW_mem (i := 628) (by decide +kernel) (by decide +kernel)
theorem wml_X7_53 : Cond.methodLink RX7 53 yX3_sign ∈ qW := qW_mem (i := 629) (by decide +kernel) (by decide +kernel)
theorem wml_X7_57 : Cond.methodLink RX7 57 yX3_signedAs ∈ qW := qW_mem (i := 630) (by decide +kernel) (by decide +kernel)
theorem wml_L_71 : Cond.methodLink RL 71 yX10_order ∈ qW := qW_mem (i := 1090) (by decide +kernel) (by decide +kernel)
theorem wim_X10_order : Cond.instanceMethod yX10_order ∈ qW := qW_mem (i := 1091) (by decide +kernel) (by decide +kernel)
theorem wse_X10_order : Cond.selects RX10 yX10_order yX10_order ∈ qW := qW_mem (i := 1092) (by decide +kernel) (by decide +kernel)
theorem wco_X10_order : Cond.code yX10_order cX10_order 5 (some .int) ∈ qW := qW_mem (i := 1093) (by decide +kernel) (by decide +kernel)
theorem wml_X10_275 : Cond.methodLink RX10 275 yX10_isSet ∈ qW := qW_mem (i := 1094) (by decide +kernel) (by decide +kernel)
theorem wim_X10_isSet : Cond.instanceMethod yX10_isSet ∈ qW := qW_mem (i := 1096) (by decide +kernel) (by decide +kernel)
theorem wse_X10_isSet : Cond.selects RX10 yX10_isSet yX10_isSet ∈ qW := qW_mem (i := 49) (by decide +kernel) (by decide +kernel)
theorem wco_X10_isSet : Cond.code yX10_isSet cX10_isSet 2 (some .boolean) ∈ qW := qW_mem (i := 1097) (by decide +kernel) (by decide +kernel)
theorem wml_X10_272 : Cond.methodLink RX10 272 yX10_bits ∈ qW := qW_mem (i := 1098) (by decide +kernel) (by decide +kernel)
theorem wst_X10_bits : Cond.static yX10_bits ∈ qW := qW_mem (i := 1099) (by decide +kernel) (by decide +kernel)
theorem wco_X10_bits : Cond.code yX10_bits cX10_bits 3 (some .int) ∈ qW := qW_mem (i := 1100) (by decide +kernel) (by decide +kernel)
theorem wml_X10_278 : Cond.methodLink RX10 278 yX10_isOrder ∈ qW := qW_mem (i := 1101) (by decide +kernel) (by decide +kernel)
theorem wim_X10_isOrder : Cond.instanceMethod yX10_isOrder ∈ qW := qW_mem (i := 1103) (by decide +kernel) (by decide +kernel)
theorem wse_X10_isOrder : Cond.selects RX10 yX10_isOrder yX10_isOrder ∈ qW := qW_mem (i := 50) (by decide +kernel) (by decide +kernel)
theorem wco_X10_isOrder : Cond.code yX10_isOrder cX10_isOrder 8 (some .boolean) ∈ qW := qW_mem (i := 1104) (by decide +kernel) (by decide +kernel)
theorem wml_X10_268 : Cond.methodLink RX10 268 yX10_figure ∈ qW := qW_mem (i := 1105) (by decide +kernel) (by decide +kernel)
theorem wst_X10_figure : Cond.static yX10_figure ∈ qW := qW_mem (i := 1106) (by decide +kernel) (by decide +kernel)
theorem wco_X10_figure : Cond.code yX10_figure cX10_figure 3 (some .int) ∈ qW := qW_mem (i := 1107) (by decide +kernel) (by decide +kernel)
theorem wml_L_72 : Cond.methodLink RL 72 yX9_signers ∈ qW := qW_mem (i := 631) (by decide +kernel) (by decide +kernel)
theorem wim_X9_signers : Cond.instanceMethod yX9_signers ∈ qW := qW_mem (i := 632) (by decide +kernel) (by decide +kernel)
theorem wse_X9_signers : Cond.selects RX9 yX9_signers yX9_signers ∈ qW := qW_mem (i := 633) (by decide +kernel) (by decide +kernel)
theorem wco_X9_signers : Cond.code yX9_signers cX9_signers 4 (some .int) ∈ qW := qW_mem (i := 634) (by decide +kernel) (by decide +kernel)
theorem wml_L_75 : Cond.methodLink RL 75 yX10_signers ∈ qW := qW_mem (i := 1108) (by decide +kernel) (by decide +kernel)
theorem wim_X10_signers : Cond.instanceMethod yX10_signers ∈ qW := qW_mem (i := 1109) (by decide +kernel) (by decide +kernel)
theorem wse_X10_signers : Cond.selects RX10 yX10_signers yX10_signers ∈ qW := qW_mem (i := 1110) (by decide +kernel) (by decide +kernel)
theorem wco_X10_signers : Cond.code yX10_signers cX10_signers 4 (some .int) ∈ qW := qW_mem (i := 1111) (by decide +kernel) (by decide +kernel)
theorem wml_L_76 : Cond.methodLink RL 76 yX9_farShore ∈ qW := qW_mem (i := 635) (by decide +kernel) (by decide +kernel)
theorem wim_X9_farShore : Cond.instanceMethod yX9_farShore ∈ qW := qW_mem (i := 636) (by decide +kernel) (by decide +kernel)
theorem wse_X9_farShore : Cond.selects RX9 yX9_farShore yX9_farShore ∈ qW := qW_mem (i := 637) (by decide +kernel) (by decide +kernel)
end
section
theorem wco_X9_farShore : Cond.code yX9_farShore cX9_farShore 6 (some .int) ∈ qW := qW_mem (i := 638) (by decide +kernel) (by decide +kernel)
theorem wml_X9_219 : Cond.methodLink RX9 219 yX8_fromTheEnd ∈ qW := qW_mem (i := 639) (by decide +kernel) (by decide +kernel)
theorem wst_X8_fromTheEnd : Cond.static yX8_fromTheEnd ∈ qW := qW_mem (i := 640) (by decide +kernel) (by decide +kernel)
theorem wco_X8_fromTheEnd : Cond.code yX8_fromTheEnd cX8_fromTheEnd 3 (some .int) ∈ qW := qW_mem (i := 641) (by decide +kernel) (by decide +kernel)
theorem wml_X9_222 : Cond.methodLink RX9 222 yX0_houseOfStars ∈ qW := qW_mem (i := 642) (by decide +kernel) (by decide +kernel)
theorem wml_L_79 : Cond.methodLink RL 79 yX10_farShore ∈ qW := qW_mem (i := 1112) (by decide +kernel) (by decide +kernel)
theorem wim_X10_farShore : Cond.instanceMethod yX10_farShore ∈ qW := qW_mem (i := 1113) (by decide +kernel) (by decide +kernel)
theorem wse_X10_farShore : Cond.selects RX10 yX10_farShore yX10_farShore ∈ qW := qW_mem (i := 1114) (by decide +kernel) (by decide +kernel)
theorem wco_X10_farShore : Cond.code yX10_farShore cX10_farShore 5 (some .int) ∈ qW := qW_mem (i := 1115) (by decide +kernel) (by decide +kernel)
theorem wml_X10_282 : Cond.methodLink RX10 282 yX10_isFarOf ∈ qW := qW_mem (i := 1116) (by decide +kernel) (by decide +kernel)
theorem wim_X10_isFarOf : Cond.instanceMethod yX10_isFarOf ∈ qW := qW_mem (i := 1118) (by decide +kernel) (by decide +kernel)
theorem wse_X10_isFarOf : Cond.selects RX10 yX10_isFarOf yX10_isFarOf ∈ qW := qW_mem (i := 51) (by decide +kernel) (by decide +kernel)
theorem wco_X10_isFarOf : Cond.code yX10_isFarOf cX10_isFarOf 5 (some .boolean) ∈ qW := qW_mem (i := 1119) (by decide +kernel) (by decide +kernel)
theorem wml_L_80 : Cond.methodLink RL 80 yX9_cross ∈ qW := qW_mem (i := 643) (by decide +kernel) (by decide +kernel)
theorem wim_X9_cross : Cond.instanceMethod yX9_cross ∈ qW := qW_mem (i := 644) (by decide +kernel) (by decide +kernel)
theorem wse_X9_cross : Cond.selects RX9 yX9_cross yX9_cross ∈ qW := qW_mem (i := 645) (by decide +kernel) (by decide +kernel)
theorem wco_X9_cross : Cond.code yX9_cross cX9_cross 3 (some .int) ∈ qW := qW_mem (i := 646) (by decide +kernel) (by decide +kernel)
theorem wml_X9_229 : Cond.methodLink RX9 229 Lib.Math.min.name ∈ qW := qW_mem (i := 648) (by decide +kernel) (by decide +kernel)
theorem wml_X9_225 : Cond.methodLink RX9 225 yX0_apart ∈ qW := qW_mem (i := 647) (by decide +kernel) (by decide +kernel)
theorem wml_X9_234 : Cond.methodLink RX9 234 yX0_houseOn ∈ qW := qW_mem (i := 649) (by decide +kernel) (by decide +kernel)
theorem wml_L_83 : Cond.methodLink RL 83 yX10_cross ∈ qW := qW_mem (i := 1120) (by decide +kernel) (by decide +kernel)
theorem wim_X10_cross : Cond.instanceMethod yX10_cross ∈ qW := qW_mem (i := 1121) (by decide +kernel) (by decide +kernel)
theorem wse_X10_cross : Cond.selects RX10 yX10_cross yX10_cross ∈ qW := qW_mem (i := 1122) (by decide +kernel) (by decide +kernel)
theorem wco_X10_cross : Cond.code yX10_cross cX10_cross 5 (some .int) ∈ qW := qW_mem (i := 1123) (by decide +kernel) (by decide +kernel)
theorem wml_L_84 : Cond.methodLink RL 84 yX9_treaty ∈ qW := qW_mem (i := 650) (by decide +kernel) (by decide +kernel)
theorem wim_X9_treaty : Cond.instanceMethod yX9_treaty ∈ qW := qW_mem (i := 651) (by decide +kernel) (by decide +kernel)
theorem wse_X9_treaty : Cond.selects RX9 yX9_treaty yX9_treaty ∈ qW := qW_mem (i := 652) (by decide +kernel) (by decide +kernel)
theorem wco_X9_treaty : Cond.code yX9_treaty cX9_treaty 4 (some .int) ∈ qW := qW_mem (i := 653) (by decide +kernel) (by decide +kernel)
theorem wml_X9_237 : Cond.methodLink RX9 237 yX3_lackOfPowder ∈ qW := qW_mem (i := 654) (by decide +kernel) (by decide +kernel)
theorem wim_X3_lackOfPowder : Cond.instanceMethod yX3_lackOfPowder ∈ qW := qW_mem (i := 655) (by decide +kernel) (by decide +kernel)
theorem wse_X3_lackOfPowder : Cond.selects RX3 yX3_lackOfPowder yX3_lackOfPowder ∈ qW := qW_mem (i := 656) (by decide +kernel) (by decide +kernel)
theorem wco_X3_lackOfPowder : Cond.code yX3_lackOfPowder cX3_lackOfPowder 7 (some .int) ∈ qW := qW_mem (i := 657) (by decide +kernel) (by decide +kernel)
theorem wml_L_87 : Cond.methodLink RL 87 yX10_treaty ∈ qW := qW_mem (i := 1124) (by decide +kernel) (by decide +kernel)
theorem wim_X10_treaty : Cond.instanceMethod yX10_treaty ∈ qW := qW_mem (i := 1125) (by decide +kernel) (by decide +kernel)
theorem wse_X10_treaty : Cond.selects RX10 yX10_treaty yX10_treaty ∈ qW := qW_mem (i := 1126) (by decide +kernel) (by decide +kernel)
theorem wco_X10_treaty : Cond.code yX10_treaty cX10_treaty 7 (some .int) ∈ qW := qW_mem (i := 1127) (by decide +kernel) (by decide +kernel)
theorem wml_L_88 : Cond.methodLink RL 88 yX9_forged ∈ qW := qW_mem (i := 658) (by decide +kernel) (by decide +kernel)
theorem wim_X9_forged : Cond.instanceMethod yX9_forged ∈ qW := qW_mem (i := 659) (by decide +kernel) (by decide +kernel)
theorem wse_X9_forged : Cond.selects RX9 yX9_forged yX9_forged ∈ qW := qW_mem (i := 660) (by decide +kernel) (by decide +kernel)
theorem wco_X9_forged : Cond.code yX9_forged cX9_forged 6 (some .int) ∈ qW := qW_mem (i := 661) (by decide +kernel) (by decide +kernel)
theorem wml_X9_247 : Cond.methodLink RX9 247 Lib.Math.max.name ∈ qW := qW_mem (i := 670) (by decide +kernel) (by decide +kernel)
theorem wk_X9_250 : Cond.constant RX9 250 (1000000000) ∈ qW := qW_mem (i := 671) (by decide +kernel) (by decide +kernel)
theorem wml_X9_241 : Cond.methodLink RX9 241 yX8_areStars ∈ qW := qW_mem (i := 662) (by decide +kernel) (by decide +kernel)
theorem wst_X8_areStars : Cond.static yX8_areStars ∈ qW := qW_mem (i := 663) (by decide +kernel) (by decide +kernel)
theorem wco_X8_areStars : Cond.code yX8_areStars cX8_areStars 3 (some .boolean) ∈ qW := qW_mem (i := 664) (by decide +kernel) (by decide +kernel)
theorem wk_X8_9 : Cond.constant RX8 9 (99999) ∈ qW := qW_mem (i := 665) (by decide +kernel) (by decide +kernel)
theorem wml_X9_244 : Cond.methodLink RX9 244 yX8_unlike ∈ qW := qW_mem (i := 666) (by decide +kernel) (by decide +kernel)
theorem wst_X8_unlike : Cond.static yX8_unlike ∈ qW := qW_mem (i := 667) (by decide +kernel) (by decide +kernel)
theorem wco_X8_unlike : Cond.code yX8_unlike cX8_unlike 6 (some .int) ∈ qW := qW_mem (i := 668) (by decide +kernel) (by decide +kernel)
theorem wml_X8_10 : Cond.methodLink RX8 10 yX8_fromTheEnd ∈ qW := qW_mem (i := 669) (by decide +kernel) (by decide +kernel)
theorem wml_X9_251 : Cond.methodLink RX9 251 yX9_cutOdds ∈ qW := qW_mem (i := 672) (by decide +kernel) (by decide +kernel)
theorem wst_X9_cutOdds : Cond.static yX9_cutOdds ∈ qW := qW_mem (i := 673) (by decide +kernel) (by decide +kernel)
theorem wco_X9_cutOdds : Cond.code yX9_cutOdds cX9_cutOdds 6 (some .int) ∈ qW := qW_mem (i := 674) (by decide +kernel) (by decide +kernel)
theorem wkl_X9_298 : Cond.constantLong RX9 298 (100) ∈ qW := qW_mem (i := 675) (by decide +kernel) (by decide +kernel)
theorem wml_L_92 : Cond.methodLink RL 92 yX10_forged ∈ qW := qW_mem (i := 1128) (by decide +kernel) (by decide +kernel)
theorem wim_X10_forged : Cond.instanceMethod yX10_forged ∈ qW := qW_mem (i := 1129) (by decide +kernel) (by decide +kernel)
theorem wse_X10_forged : Cond.selects RX10 yX10_forged yX10_forged ∈ qW := qW_mem (i := 1130) (by decide +kernel) (by decide +kernel)
theorem wco_X10_forged : Cond.code yX10_forged cX10_forged 11 (some .int) ∈ qW := qW_mem (i := 1131) (by decide +kernel) (by decide +kernel)
theorem wkl_X10_288 : Cond.constantLong RX10 288 (1000000000) ∈ qW := qW_mem (i := 1136) (by decide +kernel) (by decide +kernel)
theorem wkl_X10_290 : Cond.constantLong RX10 290 (100) ∈ qW := qW_mem (i := 1137) (by decide +kernel) (by decide +kernel)
theorem wml_X10_285 : Cond.methodLink RX10 285 yX10_figuresOf ∈ qW := qW_mem (i := 1132) (by decide +kernel) (by decide +kernel)
theorem wim_X10_figuresOf : Cond.instanceMethod yX10_figuresOf ∈ qW := qW_mem (i := 1134) (by decide +kernel) (by decide +kernel)
theorem wse_X10_figuresOf : Cond.selects RX10 yX10_figuresOf yX10_figuresOf ∈ qW := qW_mem (i := 52) (by decide +kernel) (by decide +kernel)
theorem wco_X10_figuresOf : Cond.code yX10_figuresOf cX10_figuresOf 5 (some .int) ∈ qW := qW_mem (i := 1135) (by decide +kernel) (by decide +kernel)
theorem wml_L_93 : Cond.methodLink RL 93 yX9_damp ∈ qW := qW_mem (i := 676) (by decide +kernel) (by decide +kernel)
theorem wim_X9_damp : Cond.instanceMethod yX9_damp ∈ qW := qW_mem (i := 677) (by decide +kernel) (by decide +kernel)
theorem wse_X9_damp : Cond.selects RX9 yX9_damp yX9_damp ∈ qW := qW_mem (i := 678) (by decide +kernel) (by decide +kernel)
theorem wco_X9_damp : Cond.code yX9_damp cX9_damp 4 (some .int) ∈ qW := qW_mem (i := 679) (by decide +kernel) (by decide +kernel)
theorem wml_X9_255 : Cond.methodLink RX9 255 yX8_greens ∈ qW := qW_mem (i := 680) (by decide +kernel) (by decide +kernel)
theorem wml_L_96 : Cond.methodLink RL 96 yX10_damp ∈ qW := qW_mem (i := 1138) (by decide +kernel) (by decide +kernel)
theorem wim_X10_damp : Cond.instanceMethod yX10_damp ∈ qW := qW_mem (i := 1139) (by decide +kernel) (by decide +kernel)
theorem wse_X10_damp : Cond.selects RX10 yX10_damp yX10_damp ∈ qW := qW_mem (i := 1140) (by decide +kernel) (by decide +kernel)
theorem wco_X10_damp : Cond.code yX10_damp cX10_damp 6 (some .int) ∈ qW := qW_mem (i := 1141) (by decide +kernel) (by decide +kernel)
theorem wml_L_97 : Cond.methodLink RL 97 yX9_partner ∈ qW := qW_mem (i := 681) (by decide +kernel) (by decide +kernel)
theorem wim_X9_partner : Cond.instanceMethod yX9_partner ∈ qW := qW_mem (i := 682) (by decide +kernel) (by decide +kernel)
theorem wse_X9_partner : Cond.selects RX9 yX9_partner yX9_partner ∈ qW := qW_mem (i := 683) (by decide +kernel) (by decide +kernel)
theorem wco_X9_partner : Cond.code yX9_partner cX9_partner 2 (some .int) ∈ qW := qW_mem (i := 684) (by decide +kernel) (by decide +kernel)
theorem wfl_X9_262 : Cond.fieldLink RX9 262 "FireworkDeeds$Offers" "taken" "[I" ∈ qW := qW_mem (i := 264) (by decide +kernel) (by decide +kernel)
theorem wml_X9_258 : Cond.methodLink RX9 258 yX4_settle ∈ qW := qW_mem (i := 685) (by decide +kernel) (by decide +kernel)
theorem wim_X4_settle : Cond.instanceMethod yX4_settle ∈ qW := qW_mem (i := 686) (by decide +kernel) (by decide +kernel)
theorem wse_X4_settle : Cond.selects RX4 yX4_settle yX4_settle ∈ qW := qW_mem (i := 687) (by decide +kernel) (by decide +kernel)
theorem wco_X4_settle : Cond.code yX4_settle cX4_settle 5 none ∈ qW := qW_mem (i := 688) (by decide +kernel) (by decide +kernel)
theorem wml_X4_18 : Cond.methodLink RX4 18 yX4_askAll ∈ qW := qW_mem (i := 689) (by decide +kernel) (by decide +kernel)
theorem wim_X4_askAll : Cond.instanceMethod yX4_askAll ∈ qW := qW_mem (i := 691) (by decide +kernel) (by decide +kernel)
theorem wse_X4_askAll : Cond.selects RX4 yX4_askAll yX4_askAll ∈ qW := qW_mem (i := 17) (by decide +kernel) (by decide +kernel)
theorem wco_X4_askAll : Cond.code yX4_askAll cX4_askAll 6 (some .boolean) ∈ qW := qW_mem (i := 692) (by decide +kernel) (by decide +kernel)
theorem wfl_X4_22 : Cond.fieldLink RX4 22 "FireworkDeeds$Bay" "count" "I" ∈ qW := qW_mem (i := 109) (by decide +kernel) (by decide +kernel)
theorem wfl_X4_28 : Cond.fieldLink RX4 28 "FireworkDeeds$Night" "rockets" "[I" ∈ qW := qW_mem (i := 192) (by decide +kernel) (by decide +kernel)
theorem wml_X4_33 : Cond.methodLink RX4 33 yX4_nearestToAsk ∈ qW := qW_mem (i := 693) (by decide +kernel) (by decide +kernel)
theorem wim_X4_nearestToAsk : Cond.instanceMethod yX4_nearestToAsk ∈ qW := qW_mem (i := 695) (by decide +kernel) (by decide +kernel)
theorem wse_X4_nearestToAsk : Cond.selects RX4 yX4_nearestToAsk yX4_nearestToAsk ∈ qW := qW_mem (i := 18) (by decide +kernel) (by decide +kernel)
theorem wco_X4_nearestToAsk : Cond.code yX4_nearestToAsk cX4_nearestToAsk 7 (some .int) ∈ qW := qW_mem (i := 696) (by decide +kernel) (by decide +kernel)
theorem wml_X4_41 : Cond.methodLink RX4 41 yX0_apart ∈ qW := qW_mem (i := 697) (by decide +kernel) (by decide +kernel)
theorem wml_X4_37 : Cond.methodLink RX4 37 yX4_ask ∈ qW := qW_mem (i := 698) (by decide +kernel) (by decide +kernel)
theorem wim_X4_ask : Cond.instanceMethod yX4_ask ∈ qW := qW_mem (i := 700) (by decide +kernel) (by decide +kernel)
theorem wse_X4_ask : Cond.selects RX4 yX4_ask yX4_ask ∈ qW := qW_mem (i := 19) (by decide +kernel) (by decide +kernel)
theorem wco_X4_ask : Cond.code yX4_ask cX4_ask 5 none ∈ qW := qW_mem (i := 701) (by decide +kernel) (by decide +kernel)
theorem wml_X4_45 : Cond.methodLink RX4 45 yX4_pair ∈ qW := qW_mem (i := 702) (by decide +kernel) (by decide +kernel)
theorem wim_X4_pair : Cond.instanceMethod yX4_pair ∈ qW := qW_mem (i := 704) (by decide +kernel) (by decide +kernel)
theorem wse_X4_pair : Cond.selects RX4 yX4_pair yX4_pair ∈ qW := qW_mem (i := 20) (by decide +kernel) (by decide +kernel)
theorem wco_X4_pair : Cond.code yX4_pair cX4_pair 3 none ∈ qW := qW_mem (i := 705) (by decide +kernel) (by decide +kernel)
theorem wml_X4_49 : Cond.methodLink RX4 49 yX4_isNearer ∈ qW := qW_mem (i := 706) (by decide +kernel) (by decide +kernel)
theorem wst_X4_isNearer : Cond.static yX4_isNearer ∈ qW := qW_mem (i := 707) (by decide +kernel) (by decide +kernel)
theorem wco_X4_isNearer : Cond.code yX4_isNearer cX4_isNearer 6 (some .boolean) ∈ qW := qW_mem (i := 708) (by decide +kernel) (by decide +kernel)
theorem wml_L_100 : Cond.methodLink RL 100 yX10_partner ∈ qW := qW_mem (i := 1142) (by decide +kernel) (by decide +kernel)
theorem wim_X10_partner : Cond.instanceMethod yX10_partner ∈ qW := qW_mem (i := 1143) (by decide +kernel) (by decide +kernel)
theorem wse_X10_partner : Cond.selects RX10 yX10_partner yX10_partner ∈ qW := qW_mem (i := 1144) (by decide +kernel) (by decide +kernel)
theorem wco_X10_partner : Cond.code yX10_partner cX10_partner 5 (some .int) ∈ qW := qW_mem (i := 1145) (by decide +kernel) (by decide +kernel)
theorem wml_X10_295 : Cond.methodLink RX10 295 yX10_nearest ∈ qW := qW_mem (i := 1146) (by decide +kernel) (by decide +kernel)
theorem wim_X10_nearest : Cond.instanceMethod yX10_nearest ∈ qW := qW_mem (i := 1148) (by decide +kernel) (by decide +kernel)
theorem wse_X10_nearest : Cond.selects RX10 yX10_nearest yX10_nearest ∈ qW := qW_mem (i := 53) (by decide +kernel) (by decide +kernel)
theorem wco_X10_nearest : Cond.code yX10_nearest cX10_nearest 5 (some .int) ∈ qW := qW_mem (i := 1149) (by decide +kernel) (by decide +kernel)
theorem wml_X10_298 : Cond.methodLink RX10 298 yX10_ask ∈ qW := qW_mem (i := 1150) (by decide +kernel) (by decide +kernel)
theorem wim_X10_ask : Cond.instanceMethod yX10_ask ∈ qW := qW_mem (i := 1152) (by decide +kernel) (by decide +kernel)
theorem wse_X10_ask : Cond.selects RX10 yX10_ask yX10_ask ∈ qW := qW_mem (i := 54) (by decide +kernel) (by decide +kernel)
theorem wco_X10_ask : Cond.code yX10_ask cX10_ask 4 none ∈ qW := qW_mem (i := 1153) (by decide +kernel) (by decide +kernel)
theorem wml_X10_292 : Cond.methodLink RX10 292 yX10_isKeptOf ∈ qW := qW_mem (i := 1154) (by decide +kernel) (by decide +kernel)
theorem wim_X10_isKeptOf : Cond.instanceMethod yX10_isKeptOf ∈ qW := qW_mem (i := 1156) (by decide +kernel) (by decide +kernel)
theorem wse_X10_isKeptOf : Cond.selects RX10 yX10_isKeptOf yX10_isKeptOf ∈ qW := qW_mem (i := 55) (by decide +kernel) (by decide +kernel)
theorem wco_X10_isKeptOf : Cond.code yX10_isKeptOf cX10_isKeptOf 6 (some .boolean) ∈ qW := qW_mem (i := 1157) (by decide +kernel) (by decide +kernel)
theorem wml_L_101 : Cond.methodLink RL 101 yX9_duck ∈ qW := qW_mem (i := 709) (by decide +kernel) (by decide +kernel)
theorem wim_X9_duck : Cond.instanceMethod yX9_duck ∈ qW := qW_mem (i := 710) (by decide +kernel) (by decide +kernel)
theorem wse_X9_duck : Cond.selects RX9 yX9_duck yX9_duck ∈ qW := qW_mem (i := 711) (by decide +kernel) (by decide +kernel)
theorem wco_X9_duck : Cond.code yX9_duck cX9_duck 3 (some .int) ∈ qW := qW_mem (i := 712) (by decide +kernel) (by decide +kernel)
theorem wml_X9_265 : Cond.methodLink RX9 265 yX2_add ∈ qW := qW_mem (i := 713) (by decide +kernel) (by decide +kernel)
theorem wim_X2_add : Cond.instanceMethod yX2_add ∈ qW := qW_mem (i := 714) (by decide +kernel) (by decide +kernel)
theorem wse_X2_add : Cond.selects RX2 yX2_add yX2_add ∈ qW := qW_mem (i := 715) (by decide +kernel) (by decide +kernel)
theorem wco_X2_add : Cond.code yX2_add cX2_add 3 none ∈ qW := qW_mem (i := 716) (by decide +kernel) (by decide +kernel)
theorem wfl_X2_18 : Cond.fieldLink RX2 18 "FireworkDeeds$Ducks" "count" "I" ∈ qW := qW_mem (i := 277) (by decide +kernel) (by decide +kernel)
theorem wml_L_104 : Cond.methodLink RL 104 yX10_duck ∈ qW := qW_mem (i := 1158) (by decide +kernel) (by decide +kernel)
theorem wim_X10_duck : Cond.instanceMethod yX10_duck ∈ qW := qW_mem (i := 1159) (by decide +kernel) (by decide +kernel)
theorem wse_X10_duck : Cond.selects RX10 yX10_duck yX10_duck ∈ qW := qW_mem (i := 1160) (by decide +kernel) (by decide +kernel)
theorem wco_X10_duck : Cond.code yX10_duck cX10_duck 3 (some .int) ∈ qW := qW_mem (i := 1161) (by decide +kernel) (by decide +kernel)
theorem wkl_X10_302 : Cond.constantLong RX10 302 (999) ∈ qW := qW_mem (i := 1162) (by decide +kernel) (by decide +kernel)
theorem wml_L_105 : Cond.methodLink RL 105 yX9_lit ∈ qW := qW_mem (i := 717) (by decide +kernel) (by decide +kernel)
theorem wim_X9_lit : Cond.instanceMethod yX9_lit ∈ qW := qW_mem (i := 718) (by decide +kernel) (by decide +kernel)
theorem wse_X9_lit : Cond.selects RX9 yX9_lit yX9_lit ∈ qW := qW_mem (i := 719) (by decide +kernel) (by decide +kernel)
theorem wco_X9_lit : Cond.code yX9_lit cX9_lit 2 (some .int) ∈ qW := qW_mem (i := 720) (by decide +kernel) (by decide +kernel)
theorem wfl_X9_273 : Cond.fieldLink RX9 273 "FireworkDeeds$Ducks" "cell" "[I" ∈ qW := qW_mem (i := 281) (by decide +kernel) (by decide +kernel)
theorem wml_X9_269 : Cond.methodLink RX9 269 yX2_ways ∈ qW := qW_mem (i := 721) (by decide +kernel) (by decide +kernel)
theorem wim_X2_ways : Cond.instanceMethod yX2_ways ∈ qW := qW_mem (i := 722) (by decide +kernel) (by decide +kernel)
theorem wse_X2_ways : Cond.selects RX2 yX2_ways yX2_ways ∈ qW := qW_mem (i := 723) (by decide +kernel) (by decide +kernel)
theorem wco_X2_ways : Cond.code yX2_ways cX2_ways 6 (some .int) ∈ qW := qW_mem (i := 724) (by decide +kernel) (by decide +kernel)
theorem wml_X2_37 : Cond.methodLink RX2 37 Lib.Math.max.name ∈ qW := qW_mem (i := 734) (by decide +kernel) (by decide +kernel)
theorem wml_X2_22 : Cond.methodLink RX2 22 yX3_housesOver ∈ qW := qW_mem (i := 725) (by decide +kernel) (by decide +kernel)
theorem wim_X3_housesOver : Cond.instanceMethod yX3_housesOver ∈ qW := qW_mem (i := 726) (by decide +kernel) (by decide +kernel)
theorem wse_X3_housesOver : Cond.selects RX3 yX3_housesOver yX3_housesOver ∈ qW := qW_mem (i := 727) (by decide +kernel) (by decide +kernel)
theorem wco_X3_housesOver : Cond.code yX3_housesOver cX3_housesOver 5 (some .int) ∈ qW := qW_mem (i := 728) (by decide +kernel) (by decide +kernel)
theorem wml_X2_28 : Cond.methodLink RX2 28 yJ6_bitCount_0f7a4 ∈ qW := qW_mem (i := 729) (by decide +kernel) (by decide +kernel)
theorem wml_X2_34 : Cond.methodLink RX2 34 yX2_alikeAhead ∈ qW := qW_mem (i := 730) (by decide +kernel) (by decide +kernel)
theorem wim_X2_alikeAhead : Cond.instanceMethod yX2_alikeAhead ∈ qW := qW_mem (i := 732) (by decide +kernel) (by decide +kernel)
theorem wse_X2_alikeAhead : Cond.selects RX2 yX2_alikeAhead yX2_alikeAhead ∈ qW := qW_mem (i := 21) (by decide +kernel) (by decide +kernel)
theorem wco_X2_alikeAhead : Cond.code yX2_alikeAhead cX2_alikeAhead 4 (some .int) ∈ qW := qW_mem (i := 733) (by decide +kernel) (by decide +kernel)
theorem wml_X9_274 : Cond.methodLink RX9 274 yX3_housesOver ∈ qW := qW_mem (i := 735) (by decide +kernel) (by decide +kernel)
theorem wml_L_108 : Cond.methodLink RL 108 yX10_lit ∈ qW := qW_mem (i := 1163) (by decide +kernel) (by decide +kernel)
theorem wim_X10_lit : Cond.instanceMethod yX10_lit ∈ qW := qW_mem (i := 1164) (by decide +kernel) (by decide +kernel)
theorem wse_X10_lit : Cond.selects RX10 yX10_lit yX10_lit ∈ qW := qW_mem (i := 1165) (by decide +kernel) (by decide +kernel)
theorem wco_X10_lit : Cond.code yX10_lit cX10_lit 6 (some .int) ∈ qW := qW_mem (i := 1166) (by decide +kernel) (by decide +kernel)
theorem wml_X10_304 : Cond.methodLink RX10 304 yX10_litOver ∈ qW := qW_mem (i := 1167) (by decide +kernel) (by decide +kernel)
theorem wim_X10_litOver : Cond.instanceMethod yX10_litOver ∈ qW := qW_mem (i := 1169) (by decide +kernel) (by decide +kernel)
theorem wse_X10_litOver : Cond.selects RX10 yX10_litOver yX10_litOver ∈ qW := qW_mem (i := 56) (by decide +kernel) (by decide +kernel)
theorem wco_X10_litOver : Cond.code yX10_litOver cX10_litOver 4 (some .int) ∈ qW := qW_mem (i := 1170) (by decide +kernel) (by decide +kernel)
theorem wml_L_109 : Cond.methodLink RL 109 yX9_write ∈ qW := qW_mem (i := 736) (by decide +kernel) (by decide +kernel)
theorem wim_X9_write : Cond.instanceMethod yX9_write ∈ qW := qW_mem (i := 737) (by decide +kernel) (by decide +kernel)
theorem wse_X9_write : Cond.selects RX9 yX9_write yX9_write ∈ qW := qW_mem (i := 738) (by decide +kernel) (by decide +kernel)
theorem wco_X9_write : Cond.code yX9_write cX9_write 4 (some .int) ∈ qW := qW_mem (i := 739) (by decide +kernel) (by decide +kernel)
theorem wml_X9_277 : Cond.methodLink RX9 277 yX1_add ∈ qW := qW_mem (i := 740) (by decide +kernel) (by decide +kernel)
theorem wim_X1_add : Cond.instanceMethod yX1_add ∈ qW := qW_mem (i := 741) (by decide +kernel) (by decide +kernel)
theorem wse_X1_add : Cond.selects RX1 yX1_add yX1_add ∈ qW := qW_mem (i := 742) (by decide +kernel) (by decide +kernel)
theorem wco_X1_add : Cond.code yX1_add cX1_add 4 none ∈ qW := qW_mem (i := 743) (by decide +kernel) (by decide +kernel)
theorem wfl_X1_22 : Cond.fieldLink RX1 22 "FireworkDeeds$Book" "count" "I" ∈ qW := qW_mem (i := 295) (by decide +kernel) (by decide +kernel)
theorem wml_L_113 : Cond.methodLink RL 113 yX10_write ∈ qW := qW_mem (i := 1171) (by decide +kernel) (by decide +kernel)
theorem wim_X10_write : Cond.instanceMethod yX10_write ∈ qW := qW_mem (i := 1172) (by decide +kernel) (by decide +kernel)
theorem wse_X10_write : Cond.selects RX10 yX10_write yX10_write ∈ qW := qW_mem (i := 1173) (by decide +kernel) (by decide +kernel)
theorem wco_X10_write : Cond.code yX10_write cX10_write 4 (some .int) ∈ qW := qW_mem (i := 1174) (by decide +kernel) (by decide +kernel)
theorem wml_L_114 : Cond.methodLink RL 114 yX9_tear ∈ qW := qW_mem (i := 744) (by decide +kernel) (by decide +kernel)
theorem wim_X9_tear : Cond.instanceMethod yX9_tear ∈ qW := qW_mem (i := 745) (by decide +kernel) (by decide +kernel)
theorem wse_X9_tear : Cond.selects RX9 yX9_tear yX9_tear ∈ qW := qW_mem (i := 746) (by decide +kernel) (by decide +kernel)
theorem wco_X9_tear : Cond.code yX9_tear cX9_tear 2 (some .int) ∈ qW := qW_mem (i := 747) (by decide +kernel) (by decide +kernel)
theorem wml_L_117 : Cond.methodLink RL 117 yX10_tear ∈ qW := qW_mem (i := 1175) (by decide +kernel) (by decide +kernel)
theorem wim_X10_tear : Cond.instanceMethod yX10_tear ∈ qW := qW_mem (i := 1176) (by decide +kernel) (by decide +kernel)
theorem wse_X10_tear : Cond.selects RX10 yX10_tear yX10_tear ∈ qW := qW_mem (i := 1177) (by decide +kernel) (by decide +kernel)
theorem wco_X10_tear : Cond.code yX10_tear cX10_tear 2 (some .int) ∈ qW := qW_mem (i := 1178) (by decide +kernel) (by decide +kernel)
theorem wml_L_118 : Cond.methodLink RL 118 yX9_judge ∈ qW := qW_mem (i := 748) (by decide +kernel) (by decide +kernel)
theorem wim_X9_judge : Cond.instanceMethod yX9_judge ∈ qW := qW_mem (i := 749) (by decide +kernel) (by decide +kernel)
theorem wse_X9_judge : Cond.selects RX9 yX9_judge yX9_judge ∈ qW := qW_mem (i := 750) (by decide +kernel) (by decide +kernel)
theorem wco_X9_judge : Cond.code yX9_judge cX9_judge 1 (some .int) ∈ qW := qW_mem (i := 751) (by decide +kernel) (by decide +kernel)
theorem wml_X9_280 : Cond.methodLink RX9 280 yX1_firstWrong ∈ qW := qW_mem (i := 752) (by decide +kernel) (by decide +kernel)
theorem wim_X1_firstWrong : Cond.instanceMethod yX1_firstWrong ∈ qW := qW_mem (i := 753) (by decide +kernel) (by decide +kernel)
theorem wse_X1_firstWrong : Cond.selects RX1 yX1_firstWrong yX1_firstWrong ∈ qW := qW_mem (i := 754) (by decide +kernel) (by decide +kernel)
theorem wco_X1_firstWrong : Cond.code yX1_firstWrong cX1_firstWrong 3 (some .int) ∈ qW := qW_mem (i := 755) (by decide +kernel) (by decide +kernel)
theorem wml_X1_26 : Cond.methodLink RX1 26 yX3_holdsFor ∈ qW := qW_mem (i := 756) (by decide +kernel) (by decide +kernel)
theorem wml_L_121 : Cond.methodLink RL 121 yX10_judge ∈ qW := qW_mem (i := 1179) (by decide +kernel) (by decide +kernel)
theorem wim_X10_judge : Cond.instanceMethod yX10_judge ∈ qW := qW_mem (i := 1180) (by decide +kernel) (by decide +kernel)
theorem wse_X10_judge : Cond.selects RX10 yX10_judge yX10_judge ∈ qW := qW_mem (i := 1181) (by decide +kernel) (by decide +kernel)
theorem wco_X10_judge : Cond.code yX10_judge cX10_judge 2 (some .int) ∈ qW := qW_mem (i := 1182) (by decide +kernel) (by decide +kernel)
theorem wml_L_122 : Cond.methodLink RL 122 yX9_seed ∈ qW := qW_mem (i := 757) (by decide +kernel) (by decide +kernel)
theorem wim_X9_seed : Cond.instanceMethod yX9_seed ∈ qW := qW_mem (i := 758) (by decide +kernel) (by decide +kernel)
theorem wse_X9_seed : Cond.selects RX9 yX9_seed yX9_seed ∈ qW := qW_mem (i := 759) (by decide +kernel) (by decide +kernel)
theorem wco_X9_seed : Cond.code yX9_seed cX9_seed 3 (some .int) ∈ qW := qW_mem (i := 760) (by decide +kernel) (by decide +kernel)
theorem wml_L_125 : Cond.methodLink RL 125 yX10_seed ∈ qW := qW_mem (i := 1183) (by decide +kernel) (by decide +kernel)
theorem wim_X10_seed : Cond.instanceMethod yX10_seed ∈ qW := qW_mem (i := 1184) (by decide +kernel) (by decide +kernel)
theorem wse_X10_seed : Cond.selects RX10 yX10_seed yX10_seed ∈ qW := qW_mem (i := 1185) (by decide +kernel) (by decide +kernel)
theorem wco_X10_seed : Cond.code yX10_seed cX10_seed 3 (some .int) ∈ qW := qW_mem (i := 1186) (by decide +kernel) (by decide +kernel)
theorem wml_L_126 : Cond.methodLink RL 126 yX9_keep ∈ qW := qW_mem (i := 761) (by decide +kernel) (by decide +kernel)
theorem wim_X9_keep : Cond.instanceMethod yX9_keep ∈ qW := qW_mem (i := 762) (by decide +kernel) (by decide +kernel)
theorem wse_X9_keep : Cond.selects RX9 yX9_keep yX9_keep ∈ qW := qW_mem (i := 763) (by decide +kernel) (by decide +kernel)
theorem wco_X9_keep : Cond.code yX9_keep cX9_keep 2 (some .int) ∈ qW := qW_mem (i := 764) (by decide +kernel) (by decide +kernel)
theorem wml_X9_284 : Cond.methodLink RX9 284 yX3_become ∈ qW := qW_mem (i := 765) (by decide +kernel) (by decide +kernel)
theorem wml_L_129 : Cond.methodLink RL 129 yX10_keep ∈ qW := qW_mem (i := 1187) (by decide +kernel) (by decide +kernel)
theorem wim_X10_keep : Cond.instanceMethod yX10_keep ∈ qW := qW_mem (i := 1188) (by decide +kernel) (by decide +kernel)
theorem wse_X10_keep : Cond.selects RX10 yX10_keep yX10_keep ∈ qW := qW_mem (i := 1189) (by decide +kernel) (by decide +kernel)
theorem wco_X10_keep : Cond.code yX10_keep cX10_keep 3 (some .int) ∈ qW := qW_mem (i := 1190) (by decide +kernel) (by decide +kernel)
theorem wml_L_130 : Cond.methodLink RL 130 yX9_goBack ∈ qW := qW_mem (i := 766) (by decide +kernel) (by decide +kernel)
theorem wim_X9_goBack : Cond.instanceMethod yX9_goBack ∈ qW := qW_mem (i := 767) (by decide +kernel) (by decide +kernel)
theorem wse_X9_goBack : Cond.selects RX9 yX9_goBack yX9_goBack ∈ qW := qW_mem (i := 768) (by decide +kernel) (by decide +kernel)
theorem wco_X9_goBack : Cond.code yX9_goBack cX9_goBack 2 (some .int) ∈ qW := qW_mem (i := 769) (by decide +kernel) (by decide +kernel)
theorem wml_L_133 : Cond.methodLink RL 133 yX10_goBack ∈ qW := qW_mem (i := 1191) (by decide +kernel) (by decide +kernel)
theorem wim_X10_goBack : Cond.instanceMethod yX10_goBack ∈ qW := qW_mem (i := 1192) (by decide +kernel) (by decide +kernel)
theorem wse_X10_goBack : Cond.selects RX10 yX10_goBack yX10_goBack ∈ qW := qW_mem (i := 1193) (by decide +kernel) (by decide +kernel)
theorem wco_X10_goBack : Cond.code yX10_goBack cX10_goBack 3 (some .int) ∈ qW := qW_mem (i := 1194) (by decide +kernel) (by decide +kernel)
end
section
theorem qW_lay (C : String) (T : u_T) (ps : List Nat) (h : (List.range ps.length).all (fun k => decide (lw_tbl[ps.getD k 0]? = some (u_lay C T k)) && goodWord (u_lay C T k)) = true) (k : Nat) (hk : k < ps.length) : u_lay C T k ∈ qW := by
  have h1 := List.all_eq_true.mp h k (List.mem_range.mpr hk)
  simp only [Bool.and_eq_true, decide_eq_true_eq] at h1
  exact qW_mem h1.1 h1.2
theorem iqX0 : ∀ w ∈ u_ws RX0 TX0 10, w ∈ qW := by
  intro w hw
  obtain ⟨k, hk, rfl⟩ := List.mem_map.mp hw
  have hk := List.mem_range.mp hk
  exact qW_lay RX0 TX0 [122, 124, 126, 128, 130, 132, 134, 136, 138, 140] (by decide +kernel) k hk
theorem vqX0 : vwCl[0]? = some (RX0, TX0, 10) := rfl
theorem iqX1 : ∀ w ∈ u_ws RX1 TX1 4, w ∈ qW := by
  intro w hw
  obtain ⟨k, hk, rfl⟩ := List.mem_map.mp hw
  have hk := List.mem_range.mp hk
  exact qW_lay RX1 TX1 [300, 302, 304, 306] (by decide +kernel) k hk
theorem vqX1 : vwCl[1]? = some (RX1, TX1, 4) := rfl
theorem iqX2 : ∀ w ∈ u_ws RX2 TX2 3, w ∈ qW := by
  intro w hw
  obtain ⟨k, hk, rfl⟩ := List.mem_map.mp hw
  have hk := List.mem_range.mp hk
  exact qW_lay RX2 TX2 [282, 284, 286] (by decide +kernel) k hk
theorem vqX2 : vwCl[2]? = some (RX2, TX2, 3) := rfl
theorem iqX3 : ∀ w ∈ u_ws RX3 TX3 8, w ∈ qW := by
  intro w hw
  obtain ⟨k, hk, rfl⟩ := List.mem_map.mp hw
  have hk := List.mem_range.mp hk
  exact qW_lay RX3 TX3 [199, 201, 203, 205, 207, 209, 211, 213] (by decide +kernel) k hk
theorem vqX3 : vwCl[3]? = some (RX3, TX3, 8) := rfl
theorem iqX4 : ∀ w ∈ u_ws RX4 TX4 2, w ∈ qW := by
  intro w hw
  obtain ⟨k, hk, rfl⟩ := List.mem_map.mp hw
  have hk := List.mem_range.mp hk
  exact qW_lay RX4 TX4 [266, 268] (by decide +kernel) k hk
theorem vqX4 : vwCl[4]? = some (RX4, TX4, 2) := rfl
theorem iqX5 : ∀ w ∈ u_ws RX5 TX5 3, w ∈ qW := by
  intro w hw
  obtain ⟨k, hk, rfl⟩ := List.mem_map.mp hw
  have hk := List.mem_range.mp hk
  exact qW_lay RX5 TX5 [233, 235, 237] (by decide +kernel) k hk
theorem vqX5 : vwCl[5]? = some (RX5, TX5, 3) := rfl
theorem iqX6 : ∀ w ∈ u_ws RX6 TX6 8, w ∈ qW := by
  intro w hw
  obtain ⟨k, hk, rfl⟩ := List.mem_map.mp hw
  have hk := List.mem_range.mp hk
  exact qW_lay RX6 TX6 [159, 161, 163, 165, 167, 169, 171, 173] (by decide +kernel) k hk
theorem vqX6 : vwCl[6]? = some (RX6, TX6, 8) := rfl
theorem iqX7 : ∀ w ∈ u_ws RX7 TX7 2, w ∈ qW := by
  intro w hw
  obtain ⟨k, hk, rfl⟩ := List.mem_map.mp hw
  have hk := List.mem_range.mp hk
  exact qW_lay RX7 TX7 [251, 253] (by decide +kernel) k hk
theorem vqX7 : vwCl[7]? = some (RX7, TX7, 2) := rfl
theorem iqX9 : ∀ w ∈ u_ws RX9 TX9 16, w ∈ qW := by
  intro w hw
  obtain ⟨k, hk, rfl⟩ := List.mem_map.mp hw
  have hk := List.mem_range.mp hk
  exact qW_lay RX9 TX9 [325, 327, 329, 331, 333, 335, 337, 339, 341, 343, 345, 347, 349, 351, 353, 355] (by decide +kernel) k hk
theorem vqX9 : vwCl[8]? = some (RX9, TX9, 16) := rfl
theorem iqX10 : ∀ w ∈ u_ws RX10 TX10 42, w ∈ qW := by
  intro w hw
  obtain ⟨k, hk, rfl⟩ := List.mem_map.mp hw
  have hk := List.mem_range.mp hk
  exact qW_lay RX10 TX10 [818, 820, 822, 824, 826, 828, 830, 832, 834, 836, 838, 840, 842, 844, 846, 848, 850, 852, 854, 856, 858, 860, 862, 864, 866, 868, 870, 872, 874, 876, 878, 880, 882, 884, 886, 888, 890, 892, 894, 896, 898, 900] (by decide +kernel) k hk
theorem vqX10 : vwCl[9]? = some (RX10, TX10, 42) := rfl
end
section
/-! THE ABSTRACT HEAP: a partial map from addresses to cells; an array's first number is its KIND (0 int, 1 boolean, 2 Night), an object's the number of its class in vwCl -/
abbrev qH : Type := Nat → Option va_E
def qE (kz : Nat → Nat) (c : va_E) : va_E := match c with
  | .inl x => .inl (kz x.1, x.2)
  | .inr o => .inr o
def qA (b0 : Nat) : Nat → Prop := fun q => b0 ≤ q
def qR (D : va_G) (kz : Nat → Nat) (b0 : Nat) (X : qH) (H : Heap) : Prop := ∀ (a : Nat) (c : va_E), X a = some c → b0 ≤ a ∧ va_at D vwCl (a, qE kz c) H
abbrev qT (kz : Nat → Nat) : List (ClassId × FieldType) := [(kz 0, .int), (kz 1, .boolean), (kz 2, .object "FireworkDeeds$Night")]
/-- what isn't in wsL_law: private members of nest mates, arrays of Night -/
def qN (U : State) : Prop := va_Nw (.fieldLinkNest RX9 103 RX6 "faultAt" "I" RX9) U ∧ va_Nw (.methodLinkNest RX9 35 yX6_init RX9) U ∧ va_Nw (.methodLinkNest RX9 42 yX3_init RX9) U ∧ va_Nw (.methodLinkNest RX9 71 yX7_init RX9) U ∧ va_Nw (.methodLinkNest RX9 78 yX4_init RX9) U ∧ va_Nw (.methodLinkNest RX9 85 yX2_init RX9) U ∧ va_Nw (.methodLinkNest RX9 92 yX1_init RX9) U ∧ va_Nw (.methodLinkNest RX5 17 yX3_init RX9) U ∧ va_Nw (.methodLinkNest RX7 17 yX3_init RX9) U ∧ va_AO RX3 U
theorem qN.warm {s U : State} (hW : s.WarmedH U.vm) (h : qN s) : qN U := by
  obtain ⟨h1, h2, h3, h4, h5, h6, h7, h8, h9, h10⟩ := h
  exact ⟨h1.warmF hW, h2.warmM hW, h3.warmM hW, h4.warmM hW, h5.warmM hW, h6.warmM hW, h7.warmM hW, h8.warmM hW, h9.warmM hW, h10.moved hW.alike⟩
theorem qN.same {s U : State} (hW : s.vm = U.vm) (h : qN s) : qN U := by
  obtain ⟨h1, h2, h3, h4, h5, h6, h7, h8, h9, h10⟩ := h
  exact ⟨h1.same rfl hW, h2.same rfl hW, h3.same rfl hW, h4.same rfl hW, h5.same rfl hW, h6.same rfl hW, h7.same rfl hW, h8.same rfl hW, h9.same rfl hW, h10.moved (by rw [hW]; exact Vm.Alike.refl _)⟩
/-- what holds of the tables in a state -/
def qV (D : va_G) (kz : Nat → Nat) (U : State) : Prop := va_K D vwCl (qT kz) U ∧ qN U
theorem qV.warm {D : va_G} {kz : Nat → Nat} {s U : State} (hW : s.WarmedH U.vm) (h : qV D kz s) : qV D kz U := ⟨va_K.moved hW.alike h.1, h.2.warm hW⟩
def qU (D : va_G) (kz : Nat → Nat) (b0 : Nat) (X : qH) (U : State) : Prop := qR D kz b0 X U.heap ∧ qV D kz U ∧ b0 ≤ U.heap.size
/-- behind a method: the heap alone -/
def qO (D : va_G) (kz : Nat → Nat) (b0 : Nat) (X : qH) (U : State) : Prop := qR D kz b0 X U.heap ∧ b0 ≤ U.heap.size
/-! operations -/
def qgI (X : qH) (ci a k : Nat) : Option Int32 := match X a with
  | some (.inr (c, fs)) => if c = ci then (match fs[k]? with | some (.int v) => some v | _ => none) else none
  | _ => none
def qgR (X : qH) (ci a k : Nat) : Option Nat := match X a with
  | some (.inr (c, fs)) => if c = ci then (match fs[k]? with | some (.ref v) => some v | _ => none) else none
  | _ => none
def qp (X : qH) (ci a k : Nat) (v : Value) : Option qH := match X a with
  | some (.inr (c, fs)) => if c = ci ∧ k < fs.length then some (va_up X a (some (.inr (c, fs.set k v)))) else none
  | _ => none
def qpI (X : qH) (ci a k : Nat) (v : Int32) : Option qH := qp X ci a k (.int v)
def qpZ (X : qH) (ci a k : Nat) (v : Int32) : Option qH := if v = 0 ∨ v = 1 then qp X ci a k (.int v) else none
def qpR (X : qH) (ci a k : Nat) (v : Nat) : Option qH := qp X ci a k (.ref v)
def qaI (X : qH) (kd a : Nat) (i : Int32) : Option Int32 := match X a with
  | some (.inl (k, n, .inl f)) => if k = kd ∧ ¬ i < 0 ∧ i.toNatClampNeg < n then some (f i.toNatClampNeg) else none
  | _ => none
def qaS (X : qH) (kd a : Nat) (i x : Int32) : Option qH := match X a with
  | some (.inl (k, n, .inl f)) => if k = kd ∧ ¬ i < 0 ∧ i.toNatClampNeg < n then some (va_up X a (some (.inl (k, n, .inl (upd f i.toNatClampNeg x))))) else none
  | _ => none
def qaZ (X : qH) (a : Nat) (i x : Int32) : Option qH := if x = 0 ∨ x = 1 then qaS X 1 a i x else none
def qaR (X : qH) (a : Nat) (i : Int32) : Option Nat := match X a with
  | some (.inl (k, n, .inr (.inr (.inr (.inr f))))) => if k = 2 ∧ ¬ i < 0 ∧ i.toNatClampNeg < n then f i.toNatClampNeg else none
  | _ => none
def qaT (X : qH) (a : Nat) (i : Int32) (v : Nat) : Option qH := match X a, X v with
  | some (.inl (k, n, .inr (.inr (.inr (.inr f))))), some (.inr (c, _)) => if k = 2 ∧ c = 3 ∧ ¬ i < 0 ∧ i.toNatClampNeg < n then some (va_up X a (some (.inl (k, n, .inr (.inr (.inr (.inr (va_up f i.toNatClampNeg (some v))))))))) else none
  | _, _ => none
def qln (X : qH) (a : Nat) : Option Int32 := match X a with
  | some (.inl (k, n, .inl _)) => if k = 0 then some (Int32.ofNat n) else none
  | _ => none
def qIs {α : Type} (ci : Nat) (X : qH) (a : Nat) (x : Option α) : Option α := match X a with
  | some (.inr (c, _)) => if c = ci then x else none
  | _ => none
/-- a boolean answer is 0 or 1 -/
def qz (v : Int32) : Option Int32 := if v = 0 ∨ v = 1 then some v else none
/-- a name for a computed value -/
def qlt {α β : Type} (v : α) (k : α → β) : β := k v
/-- a division, where the divisor isn't 0 -/
def qnz {β : Type} (v : Int32) (k : Option β) : Option β := if v = 0 then none else k
def qnzL {β : Type} (v : Int64) (k : Option β) : Option β := if v = 0 then none else k
/-! eliminations -/
theorem q_b {α β : Type} {x : Option α} {k : α → Option β} {r : β} (h : x.bind k = some r) : ∃ v, x = some v ∧ k v = some r := Option.bind_eq_some_iff.mp h
theorem q_t {c : Prop} [Decidable c] {α : Type} {a b : Option α} {r : α} (h : (if c then a else b) = some r) (hc : c) : a = some r := by rwa [if_pos hc] at h
theorem q_f {c : Prop} [Decidable c] {α : Type} {a b : Option α} {r : α} (h : (if c then a else b) = some r) (hc : ¬ c) : b = some r := by rwa [if_neg hc] at h
theorem q_tn {c : Prop} [Decidable c] {α : Type} {a b : Option α} {r : α} (h : (if c then a else b) = some r) (hc : ¬ ¬ c) : a = some r := by rwa [if_pos (Decidable.not_not.mp hc)] at h
theorem qnz_spec {β : Type} {v : Int32} {k : Option β} {r : β} (h : qnz v k = some r) : ¬ v = 0 ∧ k = some r := by
  unfold qnz at h
  split at h
  · cases h
  · rename_i hv; exact ⟨hv, h⟩
theorem qnzL_spec {β : Type} {v : Int64} {k : Option β} {r : β} (h : qnzL v k = some r) : ¬ v = 0 ∧ k = some r := by
  unfold qnzL at h
  split at h
  · cases h
  · rename_i hv; exact ⟨hv, h⟩
theorem qz_spec {v r : Int32} (h : qz v = some r) : v = r ∧ (v = 0 ∨ v = 1) := by
  unfold qz at h
  split at h
  · rename_i hv; exact ⟨Option.some.inj h, hv⟩
  · cases h
theorem qIs_spec {α : Type} {ci : Nat} {X : qH} {a : Nat} {x : Option α} {r : α} (h : qIs ci X a x = some r) : (∃ fs, X a = some (.inr (ci, fs))) ∧ x = some r := by
  unfold qIs at h
  split at h
  · rename_i c fs hX
    split at h
    · rename_i hc; subst hc; exact ⟨⟨fs, hX⟩, h⟩
    · cases h
  · cases h
theorem qgI_spec {X : qH} {ci a k : Nat} {v : Int32} (h : qgI X ci a k = some v) : ∃ fs, X a = some (.inr (ci, fs)) ∧ fs[k]? = some (.int v) := by
  unfold qgI at h
  split at h
  · rename_i c fs hX
    split at h
    · rename_i hc; subst hc
      split at h
      · rename_i w hw; cases h; exact ⟨fs, hX, hw⟩
      · cases h
    · cases h
  · cases h
theorem qgR_spec {X : qH} {ci a k : Nat} {v : Nat} (h : qgR X ci a k = some v) : ∃ fs, X a = some (.inr (ci, fs)) ∧ fs[k]? = some (.ref v) := by
  unfold qgR at h
  split at h
  · rename_i c fs hX
    split at h
    · rename_i hc; subst hc
      split at h
      · rename_i w hw; cases h; exact ⟨fs, hX, hw⟩
      · cases h
    · cases h
  · cases h
theorem qp_spec {X X2 : qH} {ci a k : Nat} {v : Value} (h : qp X ci a k v = some X2) : ∃ fs, X a = some (.inr (ci, fs)) ∧ k < fs.length ∧ X2 = va_up X a (some (.inr (ci, fs.set k v))) := by
  unfold qp at h
  split at h
  · rename_i c fs hX
    split at h
    · rename_i hc; obtain ⟨rfl, hk⟩ := hc; cases h; exact ⟨fs, hX, hk, rfl⟩
    · cases h
  · cases h
theorem qpZ_spec {X X2 : qH} {ci a k : Nat} {v : Int32} (h : qpZ X ci a k v = some X2) : (v = 0 ∨ v = 1) ∧ qp X ci a k (.int v) = some X2 := by
  unfold qpZ at h
  split at h
  · rename_i hv; exact ⟨hv, h⟩
  · cases h
theorem q_vpin {i : Int32} {n : Nat} (h1 : ¬ i < 0) (h2 : i.toNatClampNeg < n) : vp_in i n := fun q => q.elim h1 (fun q => Nat.not_le.mpr h2 q)
theorem qaI_spec {X : qH} {kd a : Nat} {i v : Int32} (h : qaI X kd a i = some v) : ∃ n f, X a = some (.inl (kd, n, .inl f)) ∧ vp_in i n ∧ v = f i.toNatClampNeg := by
  unfold qaI at h
  split at h
  · rename_i k n f hX
    split at h
    · rename_i hc; obtain ⟨rfl, h1, h2⟩ := hc; cases h; exact ⟨n, f, hX, q_vpin h1 h2, rfl⟩
    · cases h
  · cases h
theorem qaS_spec {X X2 : qH} {kd a : Nat} {i x : Int32} (h : qaS X kd a i x = some X2) : ∃ n f, X a = some (.inl (kd, n, .inl f)) ∧ vp_in i n ∧ X2 = va_up X a (some (.inl (kd, n, .inl (upd f i.toNatClampNeg x)))) := by
  unfold qaS at h
  split at h
  · rename_i k n f hX
    split at h
    · rename_i hc; obtain ⟨rfl, h1, h2⟩ := hc; cases h; exact ⟨n, f, hX, q_vpin h1 h2, rfl⟩
    · cases h
  · cases h
theorem qaZ_spec {X X2 : qH} {a : Nat} {i x : Int32} (h : qaZ X a i x = some X2) : (x = 0 ∨ x = 1) ∧ qaS X 1 a i x = some X2 := by
  unfold qaZ at h
  split at h
  · rename_i hv; exact ⟨hv, h⟩
  · cases h
theorem qaR_spec {X : qH} {a : Nat} {i : Int32} {v : Nat} (h : qaR X a i = some v) : ∃ n f, X a = some (.inl (2, n, .inr (.inr (.inr (.inr f))))) ∧ vp_in i n ∧ f i.toNatClampNeg = some v := by
  unfold qaR at h
  split at h
  · rename_i k n f hX
    split at h
    · rename_i hc; obtain ⟨rfl, h1, h2⟩ := hc; exact ⟨n, f, hX, q_vpin h1 h2, h⟩
    · cases h
  · cases h
theorem qaT_spec {X X2 : qH} {a : Nat} {i : Int32} {v : Nat} (h : qaT X a i v = some X2) : ∃ n f fs, X a = some (.inl (2, n, .inr (.inr (.inr (.inr f))))) ∧ X v = some (.inr (3, fs)) ∧ vp_in i n ∧ X2 = va_up X a (some (.inl (2, n, .inr (.inr (.inr (.inr (va_up f i.toNatClampNeg (some v)))))))) := by
  unfold qaT at h
  split at h
  · rename_i k n f c fs hX hV
    split at h
    · rename_i hc; obtain ⟨rfl, rfl, h1, h2⟩ := hc; cases h; exact ⟨n, f, fs, hX, hV, q_vpin h1 h2, rfl⟩
    · cases h
  · cases h
theorem qln_spec {X : qH} {a : Nat} {v : Int32} (h : qln X a = some v) : ∃ n f, X a = some (.inl (0, n, .inl f)) ∧ Int32.ofNat n = v := by
  unfold qln at h
  split at h
  · rename_i k n f hX
    split at h
    · rename_i hc; subst hc; exact ⟨n, f, hX, Option.some.inj h⟩
    · cases h
  · cases h
theorem q_nar {v : Int32} (h : v = 0 ∨ v = 1) : narrow .boolean (.int v) = .int v := by rcases h with rfl | rfl <;> rfl
theorem q_vnar {v : Int32} (h : v = 0 ∨ v = 1) : vp_nar .boolean v = v := by rcases h with rfl | rfl <;> rfl
theorem q_fit {v : Int32} (h : v = 0 ∨ v = 1) : fits .boolean (.int v) = true := by rcases h with rfl | rfl <;> rfl
theorem qR.P {D : va_G} {kz : Nat → Nat} {b0 : Nat} {X : qH} {H : Heap} {a : Nat} {c : va_E} (h : qR D kz b0 X H) (ha : X a = some c) : va_P D vwCl [(a, qE kz c)] H := by
  intro k q hk
  have hz : k < 1 := (List.getElem?_eq_some_iff.mp hk).1
  rw [show k = 0 by omega] at hk
  cases hk
  exact (h a c ha).2
/-- one cell is written, the others stay -/
theorem qR.set {D : va_G} {kz : Nat → Nat} {b0 : Nat} {X : qH} {H H1 : Heap} {a : Nat} {c : va_E} (h : qR D kz b0 X H) (hb : b0 ≤ a) (hc : va_at D vwCl (a, qE kz c) H1) (oq : ∀ q : Nat, q ≠ a → H1[q]? = H[q]?) : qR D kz b0 (va_up X a (some c)) H1 := by
  intro x d hx
  by_cases he : x = a
  · subst he
    simp only [va_up, if_true] at hx
    cases hx
    exact ⟨hb, hc⟩
  · simp only [va_up, if_neg he] at hx
    exact ⟨(h x d hx).1, (h x d hx).2.kept (oq x he)⟩
theorem qR.kept {D : va_G} {kz : Nat → Nat} {b0 : Nat} {X : qH} {H H1 : Heap} (h : qR D kz b0 X H) (oq : ∀ q : Nat, q < H.size → H1[q]? = H[q]?) : qR D kz b0 X H1 :=
  fun x d hx => ⟨(h x d hx).1, (h x d hx).2.kept (oq x (h x d hx).2.lt)⟩
theorem qU.blind {D : va_G} {kz : Nat → Nat} {b0 : Nat} {X : qH} {av : List Value} : FrameBlind (va_Pc av (qU D kz b0 X)) := fun a U g mk q => by
  obtain ⟨q0, qr, ⟨qK, qn⟩, qz⟩ := q
  exact ⟨q0, qr, ⟨va_K.moved (u := U) (U := U.calling g mk a) (Vm.Alike.refl U.vm) qK, qn.same (U := U.calling g mk a) rfl⟩, qz⟩
theorem q_preS {D : va_G} {kz : Nat → Nat} {b0 : Nat} {X : qH} {s : State} {H : Heap} {As : List Value} (hR : qR D kz b0 X H) (hK : qV D kz s) (hz : b0 ≤ H.size) : PreS s H (va_Pc As (qU D kz b0 X)) As :=
  ⟨qU.blind, fun U hU hW => ⟨rfl, by rw [hU]; exact hR, hK.warm hW, by rw [hU]; exact hz⟩⟩
theorem q_preV {D : va_G} {kz : Nat → Nat} {b0 : Nat} {X : qH} {s : State} {H : Heap} {As : List Value} {ci b N : Nat} {T : u_T} {C : String} (hc : vwCl[ci]? = some (C, T, N)) (hX : ∃ fs, X b = some (.inr (ci, fs))) (hR : qR D kz b0 X H) (hK : qV D kz s) (hz : b0 ≤ H.size) : PreV s H C b (va_Pc (.ref b :: As) (qU D kz b0 X)) As :=
  ⟨qU.blind, (by obtain ⟨fs, hX⟩ := hX; exact va_recv hK.1 (hR.P hX) hc (q0 := 0) (ci := ci) (fs := fs) rfl), fun U hU hW => ⟨rfl, by rw [hU]; exact hR, hK.warm hW, by rw [hU]; exact hz⟩⟩
section QW
variable {p : Program} {l : Launch} {e : Env} {R : Room} {s : State} {m : MethodId} {args : Array Value} {below : List Frame} {meth : Method} {c : Code} {H : Heap} {locs : List Loc} {cells slots : Nat} {Q : State → Prop}
variable {cc : ByteArray} {pc : Nat} {ls : Array Slot} {rest st0 : List Value} {D : va_G} {kz : Nat → Nat} {b0 a : Nat} {X : qH} {H0 : Heap} {own : String} {T : u_T} {N ci index : Nat} {C : String} {Ts : List Cond} {ρ : Type} {res : ρ}
theorem q_gI (hx : p.tables.exec = Jvm.exec) (hb : c.code = cc) (hts : ∀ w ∈ Ts, w.before args s = true) (hown : s.vm.findClass own = some m.cls) (hK : qV D kz s) (hR : qR D kz b0 X H) (hin : ∀ w ∈ u_ws C T N, w ∈ Ts) (hc : vwCl[ci]? = some (C, T, N)) (k : Nat) (hk : k < N) (hlink : (Cond.fieldLink own index (T k).1 (T k).2.1 (T k).2.2.1).before args s = true) {K : Int32 → Option ρ} (hf : (qgI X ci a k).bind K = some res) (hdg : decode cc pc = .ok (.getfield index, 3))
    (kk : ∀ v : Int32, K v = some res → W p l e R s m args below meth c H locs cells slots Q (F0 m (pc + 3) ls (.int v :: rest))) : W p l e R s m args below meth c H locs cells slots Q (F0 m pc ls (.ref a :: rest)) := by
  obtain ⟨v, hv, hf⟩ := q_b hf
  obtain ⟨fs, hX, hv⟩ := qgI_spec hv
  exact va_get hx hb hts hin hown hK.1 (hR.P hX) 0 rfl hc k hk hlink (fun _ h => h) hv hdg (kk v hf)
theorem q_gR (hx : p.tables.exec = Jvm.exec) (hb : c.code = cc) (hts : ∀ w ∈ Ts, w.before args s = true) (hown : s.vm.findClass own = some m.cls) (hK : qV D kz s) (hR : qR D kz b0 X H) (hin : ∀ w ∈ u_ws C T N, w ∈ Ts) (hc : vwCl[ci]? = some (C, T, N)) (k : Nat) (hk : k < N) (hlink : (Cond.fieldLink own index (T k).1 (T k).2.1 (T k).2.2.1).before args s = true) {K : Nat → Option ρ} (hf : (qgR X ci a k).bind K = some res) (hdg : decode cc pc = .ok (.getfield index, 3))
    (kk : ∀ v : Nat, K v = some res → W p l e R s m args below meth c H locs cells slots Q (F0 m (pc + 3) ls (.ref v :: rest))) : W p l e R s m args below meth c H locs cells slots Q (F0 m pc ls (.ref a :: rest)) := by
  obtain ⟨v, hv, hf⟩ := q_b hf
  obtain ⟨fs, hX, hv⟩ := qgR_spec hv
  exact va_get hx hb hts hin hown hK.1 (hR.P hX) 0 rfl hc k hk hlink (fun _ h => h) hv hdg (kk v hf)
/-- a nest mate's private field -/
theorem q_gIN {host : String} (hx : p.tables.exec = Jvm.exec) (hb : c.code = cc) (hts : ∀ w ∈ Ts, w.before args s = true) (hown : s.vm.findClass own = some m.cls) (hK : qV D kz s) (hR : qR D kz b0 X H) (hin : ∀ w ∈ u_ws C T N, w ∈ Ts) (hc : vwCl[ci]? = some (C, T, N)) (k : Nat) (hk : k < N) (hlink : (Cond.fieldLinkNest own index (T k).1 (T k).2.1 (T k).2.2.1 host).before args s = true) {K : Int32 → Option ρ} (hf : (qgI X ci a k).bind K = some res) (hdg : decode cc pc = .ok (.getfield index, 3))
    (kk : ∀ v : Int32, K v = some res → W p l e R s m args below meth c H locs cells slots Q (F0 m (pc + 3) ls (.int v :: rest))) : W p l e R s m args below meth c H locs cells slots Q (F0 m pc ls (.ref a :: rest)) := by
  obtain ⟨v, hv, hf⟩ := q_b hf
  obtain ⟨fs, hX, hv⟩ := qgI_spec hv
  exact va_getN hx hb hts hin hown hK.1 (hR.P hX) 0 rfl hc k hk hlink (fun _ h => h) hv hdg (kk v hf)
theorem q_iald (hx : p.tables.exec = Jvm.exec) (hb : c.code = cc) (hK : qV D kz s) (hR : qR D kz b0 X H) {i : Int32} {K : Int32 → Option ρ} (hf : (qaI X 0 a i).bind K = some res) (hdg : decode cc pc = .ok (.iaload, 1))
    (kk : ∀ v : Int32, K v = some res → W p l e R s m args below meth c H locs cells slots Q (F0 m (pc + 1) ls (.int v :: rest))) : W p l e R s m args below meth c H locs cells slots Q (F0 m pc ls (.int i :: .ref a :: rest)) := by
  obtain ⟨v, hv, hf⟩ := q_b hf
  obtain ⟨n, f, hX, hin, rfl⟩ := qaI_spec hv
  exact va_iald hx hb hK.1 (hR.P hX) 0 0 rfl rfl hin hdg (kk _ hf)
theorem q_zald (hx : p.tables.exec = Jvm.exec) (hb : c.code = cc) (hK : qV D kz s) (hR : qR D kz b0 X H) {i : Int32} {K : Int32 → Option ρ} (hf : (qaI X 1 a i).bind K = some res) (hdg : decode cc pc = .ok (.baload, 1))
    (kk : ∀ v : Int32, K v = some res → W p l e R s m args below meth c H locs cells slots Q (F0 m (pc + 1) ls (.int v :: rest))) : W p l e R s m args below meth c H locs cells slots Q (F0 m pc ls (.int i :: .ref a :: rest)) := by
  obtain ⟨v, hv, hf⟩ := q_b hf
  obtain ⟨n, f, hX, hin, rfl⟩ := qaI_spec hv
  exact va_zald hx hb hK.1 (hR.P hX) 0 1 rfl rfl hin hdg (kk _ hf)
theorem q_aald (hx : p.tables.exec = Jvm.exec) (hb : c.code = cc) (hK : qV D kz s) (hR : qR D kz b0 X H) {i : Int32} {K : Nat → Option ρ} (hf : (qaR X a i).bind K = some res) (hdg : decode cc pc = .ok (.aaload, 1))
    (kk : ∀ v : Nat, K v = some res → W p l e R s m args below meth c H locs cells slots Q (F0 m (pc + 1) ls (.ref v :: rest))) : W p l e R s m args below meth c H locs cells slots Q (F0 m pc ls (.int i :: .ref a :: rest)) := by
  obtain ⟨v, hv, hf⟩ := q_b hf
  obtain ⟨n, f, hX, hin, hv⟩ := qaR_spec hv
  have := kk v hf
  exact va_aldq hx hb hK.1 (hR.P hX) 0 2 rfl rfl hin hdg (by rw [hv]; exact this)
theorem q_alen (hx : p.tables.exec = Jvm.exec) (hb : c.code = cc) (hK : qV D kz s) (hR : qR D kz b0 X H) {K : Int32 → Option ρ} (hf : (qln X a).bind K = some res) (hdg : decode cc pc = .ok (.arraylength, 1))
    (kk : ∀ v : Int32, K v = some res → W p l e R s m args below meth c H locs cells slots Q (F0 m (pc + 1) ls (.int v :: rest))) : W p l e R s m args below meth c H locs cells slots Q (F0 m pc ls (.ref a :: rest)) := by
  obtain ⟨v, hv, hf⟩ := q_b hf
  obtain ⟨n, f, hX, hv⟩ := qln_spec hv
  exact va_alen hx hb hK.1 (hR.P hX) 0 0 rfl rfl hv hdg (kk v hf)
end QW
end
section
section QW2
variable {p : Program} {l : Launch} {e : Env} {R : Room} {s : State} {m : MethodId} {args : Array Value} {below : List Frame} {meth : Method} {c : Code} {H : Heap} {locs : List Loc} {cells slots : Nat} {Q : State → Prop}
variable {cc : ByteArray} {pc : Nat} {ls : Array Slot} {rest st0 : List Value} {D : va_G} {kz : Nat → Nat} {b0 a : Nat} {X : qH} {H0 : Heap} {own : String} {T : u_T} {N ci index : Nat} {C : String} {Ts : List Cond} {ρ : Type} {res : ρ}
/-- putfield, a field that isn't final -/
theorem q_put0 (hx : p.tables.exec = Jvm.exec) (hb : c.code = cc) (hts : ∀ w ∈ Ts, w.before args s = true) (hown : s.vm.findClass own = some m.cls) (hK : qV D kz s) (hR : qR D kz b0 X H) (hS0 : va_S (qA b0) H0 H locs) (hz : b0 ≤ H.size) (hin : ∀ w ∈ u_ws C T N, w ∈ Ts) (hc : vwCl[ci]? = some (C, T, N)) (ty0 : Nat → FieldType) (hty : ∀ k, k < N → parseFieldDescriptor (T k).2.2.1 = some (ty0 k)) (hnm : ∀ a, a < N → ∀ b, b < N → a ≠ b → (T a).2.1 ≠ (T b).2.1) (k : Nat) (hk : k < N) (hlink : (Cond.fieldLink own index (T k).1 (T k).2.1 (T k).2.2.1).before args s = true) (hfin : (T k).2.2.2 = false) {v : Value} (hn : narrow (ty0 k) v = v) (hfit : fits (ty0 k) v = true) {X2 : qH} (hf : qp X ci a k v = some X2) (hdg : decode cc pc = .ok (.putfield index, 3))
    (kk : ∀ (H : Heap) (locs : List Loc), qR D kz b0 X2 H → va_S (qA b0) H0 H locs → b0 ≤ H.size → W p l e R s m args below meth c H locs cells slots Q (F0 m (pc + 3) ls rest)) : W p l e R s m args below meth c H locs cells slots Q (F0 m pc ls (v :: .ref a :: rest)) := by
  obtain ⟨fs, hX, hl, rfl⟩ := qp_spec hf
  have hap := va_apart (own := own) hts hin ty0 hty hnm hK.1 hc
  obtain ⟨hba, r, h1, cell, q1, q2, q3, q4⟩ := hR a _ hX
  have hr : r = (C, T, N) := Option.some.inj (h1.symm.trans hc)
  subst hr
  obtain ⟨hS, hfc, kC, hkC, hkind⟩ := hK.1.1 ci _ hc
  obtain ⟨cf, kf, fi, f, hi, hsl⟩ := hS k hk
  have hlay := hts _ (hin _ (u_in_lay hk))
  unfold u_lay at hlay
  rw [if_neg (by rw [hfin]; decide)] at hlay
  have hst := (u_facts hfc hkC (u_lays hts hin hk) hi).1
  have h6 := u_store hfc hkC hkind hlay hi (hty k hk) hn hfit
  refine W.putK hx hb (f := f) ⟨hown, hlink, ⟨_, _, _, hi⟩, hst⟩ (by rw [q2]; exact h6) q1 q3 (by rw [hsl]; exact k2_hasslot (q4 k hk)) rfl rfl hdg fun H' e1 e2 e3 => ?_
  rw [hsl] at e1 ⊢
  exact kk H' _ (hR.set hba ⟨_, hc, t_OB.to (V := updV (vp_V fs) k v) ⟨_, e1, q2, q3, t_set q4 hap hk v⟩ (fun j _ => vp_updV_set hl v j)⟩ e3) (hS0.put e2 e3 hba) (by rw [e2]; exact hz)
/-- putfield, a final field in its constructor -/
theorem q_putF (hx : p.tables.exec = Jvm.exec) (hb : c.code = cc) (hts : ∀ w ∈ Ts, w.before args s = true) (hown : s.vm.findClass own = some m.cls) (hK : qV D kz s) (hR : qR D kz b0 X H) (hS0 : va_S (qA b0) H0 H locs) (hin : ∀ w ∈ u_ws C T N, w ∈ Ts) (hc : vwCl[ci]? = some (C, T, N)) (ty0 : Nat → FieldType) (hty : ∀ k, k < N → parseFieldDescriptor (T k).2.2.1 = some (ty0 k)) (hnm : ∀ a, a < N → ∀ b, b < N → a ≠ b → (T a).2.1 ≠ (T b).2.1) (k : Nat) (hk : k < N) (hlink : (Cond.fieldLink own index (T k).1 (T k).2.1 (T k).2.2.1).before args s = true) (hfin : (T k).2.2.2 = true) (hin2 : meth.name = "<init>") (hdecl : (T k).1 = own) {v : Value} (hn : narrow (ty0 k) v = v) (hfit : fits (ty0 k) v = true) {X2 : qH} (hf : qp X ci a k v = some X2) (hdg : decode cc pc = .ok (.putfield index, 3))
    (kk : ∀ (H1 : Heap) (locs : List Loc), qR D kz b0 X2 H1 → va_S (qA b0) H0 H1 locs → H1.size = H.size → W p l e R s m args below meth c H1 locs cells slots Q (F0 m (pc + 3) ls rest)) : W p l e R s m args below meth c H locs cells slots Q (F0 m pc ls (v :: .ref a :: rest)) := by
  obtain ⟨fs, hX, hl, rfl⟩ := qp_spec hf
  have hap := va_apart (own := own) hts hin ty0 hty hnm hK.1 hc
  obtain ⟨hba, r, h1, cell, q1, q2, q3, q4⟩ := hR a _ hX
  have hr : r = (C, T, N) := Option.some.inj (h1.symm.trans hc)
  subst hr
  obtain ⟨hS, hfc, kC, hkC, hkind⟩ := hK.1.1 ci _ hc
  obtain ⟨cf, kf, fi, f, hi, hsl⟩ := hS k hk
  have hlay := hts _ (hin _ (u_in_lay hk))
  unfold u_lay at hlay
  rw [if_pos hfin] at hlay
  have hst := (u_facts hfc hkC (u_lays hts hin hk) hi).1
  have hcf : m.cls = cf := by
    obtain ⟨_, _, c', _, _, _, -, -, hf', -, -, -, hown2, -⟩ := Cond.laysFinal_spec hlay
    have e1 : c' = cf := by have := hi.symm.trans hf'; simp at this; exact this.1.symm
    rw [hdecl] at hown2
    rw [← e1]; exact Option.some.inj (hown.symm.trans hown2)
  have h6 := u_fits hfc hkC hkind (Or.inr hlay) hi (hty k hk) hn hfit
  refine W.putFinK hx hb hown hlink hi hst hcf hin2 (by rw [q2]; exact h6) q1 q3 (by rw [hsl]; exact k2_hasslot (q4 k hk)) rfl rfl hdg fun H' e1 e2 e3 => ?_
  rw [hsl] at e1 ⊢
  exact kk H' _ (hR.set hba ⟨_, hc, t_OB.to (V := updV (vp_V fs) k v) ⟨_, e1, q2, q3, t_set q4 hap hk v⟩ (fun j _ => vp_updV_set hl v j)⟩ e3) (hS0.put e2 e3 hba) e2
/-- a field of a new object in its constructor that isn't final: the size is told -/
theorem q_iast (hx : p.tables.exec = Jvm.exec) (hb : c.code = cc) (hK : qV D kz s) (hR : qR D kz b0 X H) (hS : va_S (qA b0) H0 H locs) (hz : b0 ≤ H.size) {i x : Int32} {K : qH → Option ρ} (hf : (qaS X 0 a i x).bind K = some res) (hdg : decode cc pc = .ok (.iastore, 1))
    (kk : ∀ (X : qH), K X = some res → ∀ (H : Heap) (locs : List Loc), qR D kz b0 X H → va_S (qA b0) H0 H locs → b0 ≤ H.size → W p l e R s m args below meth c H locs cells slots Q (F0 m (pc + 1) ls rest)) : W p l e R s m args below meth c H locs cells slots Q (F0 m pc ls (.int x :: .int i :: .ref a :: rest)) := by
  obtain ⟨X2, hv, hf⟩ := q_b hf
  obtain ⟨n, f, hX, hin, rfl⟩ := qaS_spec hv
  obtain ⟨hba, hat⟩ := hR a _ hX
  refine W.iast hx hb hat ((hK.1.2 0 _ rfl).1 n (fun j => .int (f j))) (fun q => by cases q) (by show ¬ (i < 0 ∨ (arrV _ _ _).slots.size ≤ _); rw [arrV_size]; exact hin) rfl rfl hdg fun H1 e z oq => ?_
  refine kk _ hf H1 _ (hR.set hba ?_ oq) (hS.put z oq hba) (by rw [z]; exact hz)
  show H1[a]? = some (vp_cell _ _)
  rw [e]
  show some (Cell.setSlot (vp_cell _ _) _ _) = _
  rw [vp_cell_i, vp_cell_i, arrV_store]
  congr 2
  funext q
  by_cases hq : q = i.toNatClampNeg
  · subst hq
    simp [updV, upd]
  · simp [updV, upd, hq]
theorem q_zast (hx : p.tables.exec = Jvm.exec) (hb : c.code = cc) (hK : qV D kz s) (hR : qR D kz b0 X H) (hS : va_S (qA b0) H0 H locs) (hz : b0 ≤ H.size) {i x : Int32} {K : qH → Option ρ} (hf : (qaZ X a i x).bind K = some res) (hdg : decode cc pc = .ok (.bastore, 1))
    (kk : ∀ (X : qH), K X = some res → ∀ (H : Heap) (locs : List Loc), qR D kz b0 X H → va_S (qA b0) H0 H locs → b0 ≤ H.size → W p l e R s m args below meth c H locs cells slots Q (F0 m (pc + 1) ls rest)) : W p l e R s m args below meth c H locs cells slots Q (F0 m pc ls (.int x :: .int i :: .ref a :: rest)) := by
  obtain ⟨X2, hv, hf⟩ := q_b hf
  obtain ⟨hx01, hv⟩ := qaZ_spec hv
  obtain ⟨n, f, hX, hin, rfl⟩ := qaS_spec hv
  obtain ⟨hba, hat⟩ := hR a _ hX
  refine W.zast hx hb hat ((hK.1.2 1 _ rfl).1 n (fun j => .int (f j))) (fun q => by cases q) (by show ¬ (i < 0 ∨ (arrV _ _ _).slots.size ≤ _); rw [arrV_size]; exact hin) rfl rfl hdg fun H1 e z oq => ?_
  refine kk _ hf H1 _ (hR.set hba ?_ oq) (hS.put z oq hba) (by rw [z]; exact hz)
  show H1[a]? = some (vp_cell _ _)
  rw [e]
  show some (Cell.setSlot (vp_cell _ _) _ _) = _
  rw [vp_cell_i, vp_cell_i, arrV_store, q_nar hx01]
  congr 2
  funext q
  by_cases hq : q = i.toNatClampNeg
  · subst hq
    simp [updV, upd]
  · simp [updV, upd, hq]
/-- calls -/
theorem q_calli {a9 : Array Value} {r : Int32} {X2 : qH} (hr : va_Run p l e R s m args below meth c H locs cells slots 0 0 (F0 m pc ls st0) rest (va_Qi (fun (r' : Int32) (u : qH) => r' = r ∧ u = X2) (fun u t => qO D kz b0 u t) (qA b0) a9) (qA b0)) (hS : va_S (qA b0) H0 H locs)
    (kk : ∀ (H1 : Heap) (locs1 : List Loc), qR D kz b0 X2 H1 → va_S (qA b0) H0 H1 locs1 → b0 ≤ H1.size → W p l e R s m args below meth c H1 locs1 cells slots Q (F0 m (pc + 3) ls (.int r :: rest))) : W p l e R s m args below meth c H locs cells slots Q (F0 m pc ls st0) := by
  refine va_calli hr hS (fun _ _ h => h) (fun _ h => h) (fun r1 u t H1 locs1 ht hvm hp hB _ _ hS1 => ?_)
  obtain ⟨rfl, rfl⟩ := hp
  exact kk H1 locs1 (by rw [← ht]; exact hB.1) hS1 (by rw [← ht]; exact hB.2)
theorem q_callv {a9 : Array Value} {X2 : qH} (hr : va_Run p l e R s m args below meth c H locs cells slots 0 0 (F0 m pc ls st0) rest (va_Qv (fun (u : qH) => u = X2) (fun u t => qO D kz b0 u t) (qA b0) a9) (qA b0)) (hS : va_S (qA b0) H0 H locs)
    (kk : ∀ (H1 : Heap) (locs1 : List Loc), qR D kz b0 X2 H1 → va_S (qA b0) H0 H1 locs1 → b0 ≤ H1.size → W p l e R s m args below meth c H1 locs1 cells slots Q (F0 m (pc + 3) ls rest)) : W p l e R s m args below meth c H locs cells slots Q (F0 m pc ls st0) := by
  refine va_callv hr hS (fun _ _ h => h) (fun _ h => h) (fun u t H1 locs1 ht hvm hp hB _ _ hS1 => ?_)
  subst hp
  exact kk H1 locs1 (by rw [← ht]; exact hB.1) hS1 (by rw [← ht]; exact hB.2)
/-- returns -/
theorem q_iret {r v : Int32} {X2 : qH} (hx : p.tables.exec = Jvm.exec) (hb : c.code = cc) (hr : meth.sig.returnType = some .int) (hlocks : meth.locks = false) (hR : qR D kz b0 X H) (hS : va_S (qA b0) s.heap H locs) (hz : b0 ≤ H.size) (h1 : v = r) (h2 : X = X2) (hdg : decode cc pc = .ok (.ireturn, 1)) :
    W p l e R s m args below meth c H locs cells slots (MQ below (va_Qi (fun (r' : Int32) (u : qH) => r' = r ∧ u = X2) (fun u t => qO D kz b0 u t) (qA b0)) args s cells slots (qA b0)) (F0 m pc ls [.int v]) := by
  subst h1; subst h2
  exact W.iret hx hb hr (fun t ht hW => ⟨⟨v, X, rfl, ⟨rfl, rfl⟩, by rw [← ht] at hR; exact hR, by rw [ht]; exact hz⟩, hS.F ht⟩) hS.2.2 hdg
theorem q_zret {r v : Int32} {X2 : qH} (hx : p.tables.exec = Jvm.exec) (hb : c.code = cc) (hr : meth.sig.returnType = some .boolean) (hlocks : meth.locks = false) (hR : qR D kz b0 X H) (hS : va_S (qA b0) s.heap H locs) (hz : b0 ≤ H.size) (h1 : v = r) (h01 : v = 0 ∨ v = 1) (h2 : X = X2) (hdg : decode cc pc = .ok (.ireturn, 1)) :
    W p l e R s m args below meth c H locs cells slots (MQ below (va_Qi (fun (r' : Int32) (u : qH) => r' = r ∧ u = X2) (fun u t => qO D kz b0 u t) (qA b0)) args s cells slots (qA b0)) (F0 m pc ls [.int v]) := by
  subst h1; subst h2
  exact W.zret hx hb hr (q_nar h01) (fun t ht hW => ⟨⟨v, X, rfl, ⟨rfl, rfl⟩, by rw [← ht] at hR; exact hR, by rw [ht]; exact hz⟩, hS.F ht⟩) hS.2.2 hdg
theorem q_vret {X2 : qH} (hx : p.tables.exec = Jvm.exec) (hb : c.code = cc) (hr : meth.sig.returnType = none) (hlocks : meth.locks = false) (hR : qR D kz b0 X H) (hS : va_S (qA b0) s.heap H locs) (hz : b0 ≤ H.size) (h2 : X = X2) (hdg : decode cc pc = .ok (.return_, 1)) :
    W p l e R s m args below meth c H locs cells slots (MQ below (va_Qv (fun (u : qH) => u = X2) (fun u t => qO D kz b0 u t) (qA b0)) args s cells slots (qA b0)) (F0 m pc ls []) := by
  subst h2
  exact W.vret hx hb hr (fun t ht hW => ⟨⟨X, rfl, rfl, by rw [← ht] at hR; exact hR, by rw [ht]; exact hz⟩, hS.F ht⟩) hS.2.2 hdg
end QW2
/-- the words of a method: its code, and all good words of the tables -/
abbrev qws (y : MethodName) (b : ByteArray) (n : Nat) (ret : Option FieldType) : List Cond := .code y b n ret :: qW
theorem q_gI0 {y2 : MethodName} {b2 : ByteArray} {n2 : Nat} {ret2 : Option FieldType} (h : Cond.code y2 b2 n2 ret2 ∈ qW) : GoodIn qW (qws y2 b2 n2 ret2) := fun w hw => by
  have hm : w ∈ qW := (List.mem_cons.mp hw).elim (fun e => by rw [e]; exact h) id
  exact ⟨hm, good_of_word (qW_good hm)⟩
theorem q_gV {y2 : MethodName} {b2 : ByteArray} {n2 : Nat} {ret2 : Option FieldType} {own C : String} {idx : Nat} (h : Cond.code y2 b2 n2 ret2 ∈ qW) (h1 : Cond.methodLink own idx y2 ∈ qW) (h2 : Cond.instanceMethod y2 ∈ qW) (h3 : Cond.selects C y2 y2 ∈ qW) (h4 : Cond.initialized C ∈ qW) : GoodIn qW (wsV own idx C y2 (qws y2 b2 n2 ret2)) := fun w hw => by
  have hm : w ∈ qW := by
    simp only [wsV, List.mem_append, List.mem_cons, List.not_mem_nil, or_false] at hw
    rcases hw with (rfl | rfl | rfl | rfl) | rfl | hw
    · exact h1
    · exact h2
    · exact h3
    · exact h4
    · exact h
    · exact hw
  exact ⟨hm, good_of_word (qW_good hm)⟩
theorem q_gS {y2 : MethodName} {b2 : ByteArray} {n2 : Nat} {ret2 : Option FieldType} {own : String} {idx : Nat} (h : Cond.code y2 b2 n2 ret2 ∈ qW) (h1 : Cond.methodLink own idx y2 ∈ qW) (h2 : Cond.static y2 ∈ qW) (h4 : Cond.initialized y2.cls ∈ qW) : GoodIn qW (va_wsS own idx y2 (qws y2 b2 n2 ret2)) := fun w hw => by
  have hm : w ∈ qW := by
    simp only [va_wsS, List.mem_append, List.mem_cons, List.not_mem_nil, or_false] at hw
    rcases hw with (rfl | rfl | rfl) | rfl | hw
    · exact h1
    · exact h2
    · exact h4
    · exact h
    · exact hw
  exact ⟨hm, good_of_word (qW_good hm)⟩
section QW3
variable {p : Program} {l : Launch} {e : Env} {R : Room} {s : State} {m : MethodId} {args : Array Value} {below : List Frame} {meth : Method} {c : Code} {H : Heap} {locs : List Loc} {cells slots : Nat} {Q : State → Prop}
variable {cc : ByteArray} {pc : Nat} {ls : Array Slot} {rest st0 : List Value} {D : va_G} {kz : Nat → Nat} {b0 a : Nat} {X : qH} {H0 : Heap} {own : String} {T : u_T} {N ci index : Nat} {C : String} {Ts : List Cond} {ρ : Type} {res : ρ}
theorem q_pI (hx : p.tables.exec = Jvm.exec) (hb : c.code = cc) (hts : ∀ w ∈ Ts, w.before args s = true) (hown : s.vm.findClass own = some m.cls) (hK : qV D kz s) (hR : qR D kz b0 X H) (hS0 : va_S (qA b0) H0 H locs) (hz : b0 ≤ H.size) (hin : ∀ w ∈ u_ws C T N, w ∈ Ts) (hc : vwCl[ci]? = some (C, T, N)) {ty0 : Nat → FieldType} (hty : ∀ k, k < N → parseFieldDescriptor (T k).2.2.1 = some (ty0 k)) (hnm : ∀ a, a < N → ∀ b, b < N → a ≠ b → (T a).2.1 ≠ (T b).2.1) (k : Nat) (hk : k < N) (hlink : (Cond.fieldLink own index (T k).1 (T k).2.1 (T k).2.2.1).before args s = true) (hfin : (T k).2.2.2 = false) {v : Int32} (ht0 : ty0 k = .int) {K : qH → Option ρ} (hf : (qpI X ci a k v).bind K = some res) (hdg : decode cc pc = .ok (.putfield index, 3))
    (kk : ∀ (X : qH), K X = some res → ∀ (H : Heap) (locs : List Loc), qR D kz b0 X H → va_S (qA b0) H0 H locs → b0 ≤ H.size → W p l e R s m args below meth c H locs cells slots Q (F0 m (pc + 3) ls rest)) : W p l e R s m args below meth c H locs cells slots Q (F0 m pc ls (.int v :: .ref a :: rest)) := by
  obtain ⟨X2, hv, hf⟩ := q_b hf
  exact q_put0 hx hb hts hown hK hR hS0 hz hin hc ty0 hty hnm k hk hlink hfin (by rw [ht0]; rfl) (by rw [ht0]; rfl) hv hdg (kk X2 hf)
theorem q_pZ (hx : p.tables.exec = Jvm.exec) (hb : c.code = cc) (hts : ∀ w ∈ Ts, w.before args s = true) (hown : s.vm.findClass own = some m.cls) (hK : qV D kz s) (hR : qR D kz b0 X H) (hS0 : va_S (qA b0) H0 H locs) (hz : b0 ≤ H.size) (hin : ∀ w ∈ u_ws C T N, w ∈ Ts) (hc : vwCl[ci]? = some (C, T, N)) {ty0 : Nat → FieldType} (hty : ∀ k, k < N → parseFieldDescriptor (T k).2.2.1 = some (ty0 k)) (hnm : ∀ a, a < N → ∀ b, b < N → a ≠ b → (T a).2.1 ≠ (T b).2.1) (k : Nat) (hk : k < N) (hlink : (Cond.fieldLink own index (T k).1 (T k).2.1 (T k).2.2.1).before args s = true) (hfin : (T k).2.2.2 = false) {v : Int32} (ht0 : ty0 k = .boolean) {K : qH → Option ρ} (hf : (qpZ X ci a k v).bind K = some res) (hdg : decode cc pc = .ok (.putfield index, 3))
    (kk : ∀ (X : qH), K X = some res → ∀ (H : Heap) (locs : List Loc), qR D kz b0 X H → va_S (qA b0) H0 H locs → b0 ≤ H.size → W p l e R s m args below meth c H locs cells slots Q (F0 m (pc + 3) ls rest)) : W p l e R s m args below meth c H locs cells slots Q (F0 m pc ls (.int v :: .ref a :: rest)) := by
  obtain ⟨X2, hv, hf⟩ := q_b hf
  obtain ⟨h01, hv⟩ := qpZ_spec hv
  exact q_put0 hx hb hts hown hK hR hS0 hz hin hc ty0 hty hnm k hk hlink hfin (by rw [ht0]; exact q_nar h01) (by rw [ht0]; exact q_fit h01) hv hdg (kk X2 hf)
theorem q_pR (hx : p.tables.exec = Jvm.exec) (hb : c.code = cc) (hts : ∀ w ∈ Ts, w.before args s = true) (hown : s.vm.findClass own = some m.cls) (hK : qV D kz s) (hR : qR D kz b0 X H) (hS0 : va_S (qA b0) H0 H locs) (hz : b0 ≤ H.size) (hin : ∀ w ∈ u_ws C T N, w ∈ Ts) (hc : vwCl[ci]? = some (C, T, N)) {ty0 : Nat → FieldType} (hty : ∀ k, k < N → parseFieldDescriptor (T k).2.2.1 = some (ty0 k)) (hnm : ∀ a, a < N → ∀ b, b < N → a ≠ b → (T a).2.1 ≠ (T b).2.1) (k : Nat) (hk : k < N) (hlink : (Cond.fieldLink own index (T k).1 (T k).2.1 (T k).2.2.1).before args s = true) (hfin : (T k).2.2.2 = false) {v : Nat} (hn : narrow (ty0 k) (.ref v) = .ref v) (hfit : fits (ty0 k) (.ref v) = true) {K : qH → Option ρ} (hf : (qpR X ci a k v).bind K = some res) (hdg : decode cc pc = .ok (.putfield index, 3))
    (kk : ∀ (X : qH), K X = some res → ∀ (H : Heap) (locs : List Loc), qR D kz b0 X H → va_S (qA b0) H0 H locs → b0 ≤ H.size → W p l e R s m args below meth c H locs cells slots Q (F0 m (pc + 3) ls rest)) : W p l e R s m args below meth c H locs cells slots Q (F0 m pc ls (.ref v :: .ref a :: rest)) := by
  obtain ⟨X2, hv, hf⟩ := q_b hf
  exact q_put0 hx hb hts hown hK hR hS0 hz hin hc ty0 hty hnm k hk hlink hfin hn hfit hv hdg (kk X2 hf)
end QW3
/-- the head of every method -/
theorem q_start {l : Launch} {y : MethodName} {cc : ByteArray} {maxL mc ms : Nat} {ret : Option FieldType} {rm : Room} {av : List Value} {D : va_G} {kz : Nat → Nat} {b0 : Nat} {X : qH} {Qc : Array Value → State → Outcome → State → Prop} (hy : plainName y.cls = true) (hlen : (lg_sl av).length ≤ maxL)
    (body : ∀ (p : Program) (e : Env) (s : State) (m : MethodId) (args : Array Value) (below : List Frame) (meth : Method) (c : Code), p.tables.exec = Jvm.exec → c.code = cc → meth.sig.returnType = ret → meth.locks = false → meth.name = y.name → c.maxLocals = maxL → s.vm.findClass y.cls = some m.cls → (∀ w ∈ qW, w.before args s = true) → qR D kz b0 X s.heap → qV D kz s → b0 ≤ s.heap.size → ∀ ls : Array Slot, lv_has ls maxL (lv_args 0 av) → W p l e rm s m args below meth c s.heap [] 0 0 (MQ below Qc args s mc ms (qA b0)) (F0 m 0 ls [])) :
    Met l y (qws y cc maxL ret) rm (va_Pc av (qU D kz b0 X)) Qc mc ms (qA b0) := by
  refine Met.ofW (cc := cc) (maxL := maxL) (ret := ret) hy rfl ?_
  intro p e s m args below meth c s₁ B hml hv
  obtain ⟨rfl, hR, hK, hz⟩ := hv
  have hts := atoms_spec (ws := qws y cc maxL ret) B.pre
  have hl := lv_entry av hlen
  have h := body p e s m av.toArray below meth c B.exec B.bytes B.returns B.notSynchronized (name_of_methodNamed B.named B.method).1 hml (findClass_of_methodNamed B.named) (fun w hw => hts w (List.mem_cons_of_mem _ hw)) hR hK hz _ hl
  rw [lg_entry_eq]
  exact h
theorem q_lt {α β : Type} {v t : α} {K : α → Option β} {r : β} (e : v = t) (h : qlt t K = some r) : K v = some r := by rw [e]; exact h
def qlab {τ ρ : Type} (k : τ) (b : τ → Option ρ) : Option ρ := b k
theorem q_lab {τ ρ : Type} {k : τ} {b : τ → Option ρ} {r : ρ} (h : qlab k b = some r) : ∃ J, J = k ∧ b J = some r := ⟨k, rfl, h⟩
def qb0 {γ : Type} (x : Option Unit) (k : Option γ) : Option γ := x.bind fun _ => k
def qb2 {α β γ : Type} (x : Option (α × β)) (k : α → β → Option γ) : Option γ := x.bind fun p => k p.1 p.2
def qb3 {α β δ γ : Type} (x : Option (α × β × δ)) (k : α → β → δ → Option γ) : Option γ := x.bind fun p => k p.1 p.2.1 p.2.2
def qb4 {α β δ ε γ : Type} (x : Option (α × β × δ × ε)) (k : α → β → δ → ε → Option γ) : Option γ := x.bind fun p => k p.1 p.2.1 p.2.2.1 p.2.2.2
theorem q_b0 {γ : Type} {x : Option Unit} {k : Option γ} {r : γ} (h : qb0 x k = some r) : x = some () ∧ k = some r := by
  obtain ⟨v, h1, h2⟩ := Option.bind_eq_some_iff.mp h
  exact ⟨h1, h2⟩
theorem q_b2 {α β γ : Type} {x : Option (α × β)} {k : α → β → Option γ} {r : γ} (h : qb2 x k = some r) : ∃ a b, x = some (a, b) ∧ k a b = some r := by
  obtain ⟨⟨a, b⟩, h1, h2⟩ := Option.bind_eq_some_iff.mp h
  exact ⟨a, b, h1, h2⟩
theorem q_b3 {α β δ γ : Type} {x : Option (α × β × δ)} {k : α → β → δ → Option γ} {r : γ} (h : qb3 x k = some r) : ∃ a b d, x = some (a, b, d) ∧ k a b d = some r := by
  obtain ⟨⟨a, b, d⟩, h1, h2⟩ := Option.bind_eq_some_iff.mp h
  exact ⟨a, b, d, h1, h2⟩
theorem q_b4 {α β δ ε γ : Type} {x : Option (α × β × δ × ε)} {k : α → β → δ → ε → Option γ} {r : γ} (h : qb4 x k = some r) : ∃ a b d e, x = some (a, b, d, e) ∧ k a b d e = some r := by
  obtain ⟨⟨a, b, d, e⟩, h1, h2⟩ := Option.bind_eq_some_iff.mp h
  exact ⟨a, b, d, e, h1, h2⟩
/-- an end of a loop that may be the method's end, with 0 to 4 values -/
def qsm0 {ρ γ : Type} (o : ρ ⊕ Unit) (k1 : ρ → γ) (k2 : γ) : γ := match o with | .inl z => k1 z | .inr _ => k2
def qsm1 {ρ α γ : Type} (o : ρ ⊕ α) (k1 : ρ → γ) (k2 : α → γ) : γ := match o with | .inl z => k1 z | .inr a => k2 a
def qsm2 {ρ α β γ : Type} (o : ρ ⊕ (α × β)) (k1 : ρ → γ) (k2 : α → β → γ) : γ := match o with | .inl z => k1 z | .inr a => k2 a.1 a.2
def qsm3 {ρ α β δ γ : Type} (o : ρ ⊕ (α × β × δ)) (k1 : ρ → γ) (k2 : α → β → δ → γ) : γ := match o with | .inl z => k1 z | .inr a => k2 a.1 a.2.1 a.2.2
theorem qsm0_r {ρ γ : Type} {k1 : ρ → Option γ} {k2 : Option γ} {r : γ} (h : qsm0 (.inr ()) k1 k2 = some r) : k2 = some r := h
theorem qsm1_r {ρ α γ : Type} {a : α} {k1 : ρ → Option γ} {k2 : α → Option γ} {r : γ} (h : qsm1 (.inr a) k1 k2 = some r) : k2 a = some r := h
theorem qsm2_r {ρ α β γ : Type} {a : α} {b : β} {k1 : ρ → Option γ} {k2 : α → β → Option γ} {r : γ} (h : qsm2 (.inr (a, b)) k1 k2 = some r) : k2 a b = some r := h
theorem qsm3_r {ρ α β δ γ : Type} {a : α} {b : β} {d : δ} {k1 : ρ → Option γ} {k2 : α → β → δ → Option γ} {r : γ} (h : qsm3 (.inr (a, b, d)) k1 k2 = some r) : k2 a b d = some r := h
end
section
/-! X0_empty -/
def fX0_empty (F : Nat) (X : qH) (a0 : Nat) : Option (qH) :=
qIs 0 X a0 <|
(qpI X 0 a0 0 (0 : Int32)).bind fun X1 =>
(qpI X1 0 a0 1 (0 : Int32)).bind fun X2 =>
(qpI X2 0 a0 2 (0 : Int32)).bind fun X3 =>
(qpI X3 0 a0 3 (2 : Int32)).bind fun X4 =>
(qpI X4 0 a0 4 (10 : Int32)).bind fun X5 =>
(qpI X5 0 a0 5 (0 : Int32)).bind fun X6 =>
some X6
abbrev rmX0_empty : Room := { frames := 0, cells := 0, slots := 0, locals := 0 }
theorem fX0_empty_is {F : Nat} {X : qH} {a0 : Nat} {r9 : qH} (h : fX0_empty F X a0 = some r9) : ∃ fs, X a0 = some (.inr (0, fs)) := (qIs_spec h).1
theorem hdX0_empty : yX0_empty.cls = RX0 ∧ yX0_empty.cls ≠ "java/lang/invoke/MethodHandle" ∧ yX0_empty.cls ≠ "java/lang/invoke/VarHandle" ∧ (parseMethodDescriptor yX0_empty.desc).map (fun d => d.parameters.length) = some 0 := by decide +kernel
set_option maxHeartbeats 4000000 in
set_option maxRecDepth 100000 in
theorem mX0_empty (l : Launch) (D : va_G) (kz : Nat → Nat) (b0 F : Nat) (X : qH) (a0 : Nat)  (X9 : qH) (hf : fX0_empty F X a0 = some X9) : Met l yX0_empty (qws yX0_empty cX0_empty 1 none) rmX0_empty (va_Pc [.ref a0] (qU D kz b0 X)) (va_Qv (fun (u : qH) => u = X9) (fun u t => qO D kz b0 u t) (qA b0)) 0 0 (qA b0) := by
  refine q_start (by decide) (Nat.le_of_ble_eq_true rfl) ?_
  intro p e s m args below meth c hx hb hr hlocks hnm hml hown hT hR hK hz ls hl
  have hown : s.vm.findClass RX0 = some m.cls := hown
  have hl : lv_has ls 1 [(0, .ref a0)] := hl
  have hS : va_S (qA b0) s.heap s.heap [] := va_S.rf
  obtain ⟨Q, hQ⟩ : ∃ Q, Q = MQ below (va_Qv (fun (u : qH) => u = X9) (fun u t => qO D kz b0 u t) (qA b0)) args s 0 0 (qA b0) := ⟨_, rfl⟩
  rw [← hQ]
  unfold fX0_empty at hf
  obtain ⟨hthis, hf⟩ := qIs_spec hf
  refine lv_aload_n hx hb dX0_empty_0 rfl (lv_at hl 0 rfl) ?_
  refine lv_iconst (v := (0 : Int32)) hx hb dX0_empty_1 (by decide) ?_
  refine q_pI hx hb hT hown hK hR hS hz iqX0 vqX0 tyX0_ok nmX0 0 (by decide) (hT _ wfl_X0_27) rfl rfl hf dX0_empty_2 (fun X1 hf H locs hR hS hz => ?_)
  refine lv_aload_n hx hb dX0_empty_5 rfl (lv_at hl 0 rfl) ?_
  refine lv_iconst (v := (0 : Int32)) hx hb dX0_empty_6 (by decide) ?_
  refine q_pI hx hb hT hown hK hR hS hz iqX0 vqX0 tyX0_ok nmX0 1 (by decide) (hT _ wfl_X0_31) rfl rfl hf dX0_empty_7 (fun X2 hf H locs hR hS hz => ?_)
  refine lv_aload_n hx hb dX0_empty_10 rfl (lv_at hl 0 rfl) ?_
  refine lv_iconst (v := (0 : Int32)) hx hb dX0_empty_11 (by decide) ?_
  refine q_pI hx hb hT hown hK hR hS hz iqX0 vqX0 tyX0_ok nmX0 2 (by decide) (hT _ wfl_X0_34) rfl rfl hf dX0_empty_12 (fun X3 hf H locs hR hS hz => ?_)
  refine lv_aload_n hx hb dX0_empty_15 rfl (lv_at hl 0 rfl) ?_
  refine lv_iconst (v := (2 : Int32)) hx hb dX0_empty_16 (by decide) ?_
  refine q_pI hx hb hT hown hK hR hS hz iqX0 vqX0 tyX0_ok nmX0 3 (by decide) (hT _ wfl_X0_37) rfl rfl hf dX0_empty_17 (fun X4 hf H locs hR hS hz => ?_)
  refine lv_aload_n hx hb dX0_empty_20 rfl (lv_at hl 0 rfl) ?_
  refine lv_bipush (v := (10 : Int32)) hx hb dX0_empty_21 (by decide) ?_
  refine q_pI hx hb hT hown hK hR hS hz iqX0 vqX0 tyX0_ok nmX0 4 (by decide) (hT _ wfl_X0_40) rfl rfl hf dX0_empty_23 (fun X5 hf H locs hR hS hz => ?_)
  refine lv_aload_n hx hb dX0_empty_26 rfl (lv_at hl 0 rfl) ?_
  refine lv_iconst (v := (0 : Int32)) hx hb dX0_empty_27 (by decide) ?_
  refine q_pI hx hb hT hown hK hR hS hz iqX0 vqX0 tyX0_ok nmX0 5 (by decide) (hT _ wfl_X0_43) rfl rfl hf dX0_empty_28 (fun X6 hf H locs hR hS hz => ?_)
  subst hQ
  exact q_vret hx hb hr hlocks hR hS hz (Option.some.inj hf) dX0_empty_31
/-! X0_settle -/
def fX0_settle (F : Nat) (X : qH) (a0 : Nat) (a1 : Int32) (a2 : Int32) (a3 : Int32) (a4 : Int32) : Option (qH) :=
qIs 0 X a0 <|
(qgI X 0 a0 5).bind fun v1 =>
if v1 < (8 : Int32) then ((qgR X 0 a0 6).bind fun v2 =>
(qgI X 0 a0 5).bind fun v3 =>
(qaS X 0 v2 v3 a1).bind fun X4 =>
(qgR X4 0 a0 7).bind fun v5 =>
(qgI X4 0 a0 5).bind fun v6 =>
(qaS X4 0 v5 v6 a2).bind fun X7 =>
(qgR X7 0 a0 8).bind fun v8 =>
(qgI X7 0 a0 5).bind fun v9 =>
(qaS X7 0 v8 v9 a3).bind fun X10 =>
(qgR X10 0 a0 9).bind fun v11 =>
(qgI X10 0 a0 5).bind fun v12 =>
(qaS X10 0 v11 v12 a4).bind fun X13 =>
(qgI X13 0 a0 5).bind fun v14 =>
qlt (v14 + (1 : Int32)) fun v15 =>
(qpI X13 0 a0 5 v15).bind fun X16 =>
some X16)
else (some X)
abbrev rmX0_settle : Room := { frames := 0, cells := 0, slots := 0, locals := 0 }
theorem fX0_settle_is {F : Nat} {X : qH} {a0 : Nat} {a1 : Int32} {a2 : Int32} {a3 : Int32} {a4 : Int32} {r9 : qH} (h : fX0_settle F X a0 a1 a2 a3 a4 = some r9) : ∃ fs, X a0 = some (.inr (0, fs)) := (qIs_spec h).1
theorem hdX0_settle : yX0_settle.cls = RX0 ∧ yX0_settle.cls ≠ "java/lang/invoke/MethodHandle" ∧ yX0_settle.cls ≠ "java/lang/invoke/VarHandle" ∧ (parseMethodDescriptor yX0_settle.desc).map (fun d => d.parameters.length) = some 4 := by decide +kernel
set_option maxHeartbeats 4000000 in
set_option maxRecDepth 100000 in
theorem mX0_settle (l : Launch) (D : va_G) (kz : Nat → Nat) (b0 F : Nat) (X : qH) (a0 : Nat) (a1 : Int32) (a2 : Int32) (a3 : Int32) (a4 : Int32)  (X9 : qH) (hf : fX0_settle F X a0 a1 a2 a3 a4 = some X9) : Met l yX0_settle (qws yX0_settle cX0_settle 5 none) rmX0_settle (va_Pc [.ref a0, .int a1, .int a2, .int a3, .int a4] (qU D kz b0 X)) (va_Qv (fun (u : qH) => u = X9) (fun u t => qO D kz b0 u t) (qA b0)) 0 0 (qA b0) := by
  refine q_start (by decide) (Nat.le_of_ble_eq_true rfl) ?_
  intro p e s m args below meth c hx hb hr hlocks hnm hml hown hT hR hK hz ls hl
  have hown : s.vm.findClass RX0 = some m.cls := hown
  have hl : lv_has ls 5 [(0, .ref a0), (1, .int a1), (2, .int a2), (3, .int a3), (4, .int a4)] := hl
  have hS : va_S (qA b0) s.heap s.heap [] := va_S.rf
  obtain ⟨Q, hQ⟩ : ∃ Q, Q = MQ below (va_Qv (fun (u : qH) => u = X9) (fun u t => qO D kz b0 u t) (qA b0)) args s 0 0 (qA b0) := ⟨_, rfl⟩
  rw [← hQ]
  unfold fX0_settle at hf
  obtain ⟨hthis, hf⟩ := qIs_spec hf
  refine lv_aload_n hx hb dX0_settle_0 rfl (lv_at hl 0 rfl) ?_
  refine q_gI hx hb hT hown hK hR iqX0 vqX0 5 (by decide) (hT _ wfl_X0_43) hf dX0_settle_1 (fun v1 hf => ?_)
  refine lv_bipush (v := (8 : Int32)) hx hb dX0_settle_4 (by decide) ?_
  refine lv_icmp_lt (tgt := 10) hx hb dX0_settle_6 (by decide) (fun hc => ?_) (fun hc => ?_)
  · have hf := q_t hf hc
    refine lv_aload_n hx hb dX0_settle_10 rfl (lv_at hl 0 rfl) ?_
    refine q_gR hx hb hT hown hK hR iqX0 vqX0 6 (by decide) (hT _ wfl_X0_9) hf dX0_settle_11 (fun v2 hf => ?_)
    refine lv_aload_n hx hb dX0_settle_14 rfl (lv_at hl 0 rfl) ?_
    refine q_gI hx hb hT hown hK hR iqX0 vqX0 5 (by decide) (hT _ wfl_X0_43) hf dX0_settle_15 (fun v3 hf => ?_)
    refine lv_iload_n hx hb dX0_settle_18 rfl (lv_at hl 1 rfl) ?_
    refine q_iast hx hb hK hR hS hz hf dX0_settle_19 (fun X4 hf H locs hR hS hz => ?_)
    refine lv_aload_n hx hb dX0_settle_20 rfl (lv_at hl 0 rfl) ?_
    refine q_gR hx hb hT hown hK hR iqX0 vqX0 7 (by decide) (hT _ wfl_X0_15) hf dX0_settle_21 (fun v5 hf => ?_)
    refine lv_aload_n hx hb dX0_settle_24 rfl (lv_at hl 0 rfl) ?_
    refine q_gI hx hb hT hown hK hR iqX0 vqX0 5 (by decide) (hT _ wfl_X0_43) hf dX0_settle_25 (fun v6 hf => ?_)
    refine lv_iload_n hx hb dX0_settle_28 rfl (lv_at hl 2 rfl) ?_
    refine q_iast hx hb hK hR hS hz hf dX0_settle_29 (fun X7 hf H locs hR hS hz => ?_)
    refine lv_aload_n hx hb dX0_settle_30 rfl (lv_at hl 0 rfl) ?_
    refine q_gR hx hb hT hown hK hR iqX0 vqX0 8 (by decide) (hT _ wfl_X0_18) hf dX0_settle_31 (fun v8 hf => ?_)
    refine lv_aload_n hx hb dX0_settle_34 rfl (lv_at hl 0 rfl) ?_
    refine q_gI hx hb hT hown hK hR iqX0 vqX0 5 (by decide) (hT _ wfl_X0_43) hf dX0_settle_35 (fun v9 hf => ?_)
    refine lv_iload_n hx hb dX0_settle_38 rfl (lv_at hl 3 rfl) ?_
    refine q_iast hx hb hK hR hS hz hf dX0_settle_39 (fun X10 hf H locs hR hS hz => ?_)
    refine lv_aload_n hx hb dX0_settle_40 rfl (lv_at hl 0 rfl) ?_
    refine q_gR hx hb hT hown hK hR iqX0 vqX0 9 (by decide) (hT _ wfl_X0_21) hf dX0_settle_41 (fun v11 hf => ?_)
    refine lv_aload_n hx hb dX0_settle_44 rfl (lv_at hl 0 rfl) ?_
    refine q_gI hx hb hT hown hK hR iqX0 vqX0 5 (by decide) (hT _ wfl_X0_43) hf dX0_settle_45 (fun v12 hf => ?_)
    refine lv_iload hx hb dX0_settle_48 (lv_at hl 4 rfl) ?_
    refine q_iast hx hb hK hR hS hz hf dX0_settle_50 (fun X13 hf H locs hR hS hz => ?_)
    refine lv_aload_n hx hb dX0_settle_51 rfl (lv_at hl 0 rfl) ?_
    refine lv_dup hx hb dX0_settle_52 rfl ?_
    refine q_gI hx hb hT hown hK hR iqX0 vqX0 5 (by decide) (hT _ wfl_X0_43) hf dX0_settle_53 (fun v14 hf => ?_)
    refine lv_iconst (v := (1 : Int32)) hx hb dX0_settle_56 (by decide) ?_
    refine lv_iadd hx hb dX0_settle_57 ?_
    refine lv_topi (fun v15 ev15 => ?_)
    have hf := q_lt ev15 hf
    refine q_pI hx hb hT hown hK hR hS hz iqX0 vqX0 tyX0_ok nmX0 5 (by decide) (hT _ wfl_X0_43) rfl rfl hf dX0_settle_58 (fun X16 hf H locs hR hS hz => ?_)
    subst hQ
    exact q_vret hx hb hr hlocks hR hS hz (Option.some.inj hf) dX0_settle_61
  · have hf := q_f hf hc
    subst hQ
    exact q_vret hx hb hr hlocks hR hS hz (Option.some.inj hf) dX0_settle_9
/-! X0_has -/
def fX0_has (F : Nat) (X : qH) (a0 : Nat) (a1 : Int32) : Option (Int32) :=
qIs 0 X a0 <|
(if a1 < (0 : Int32) then (some (0 : Int32))
else ((qgI X 0 a0 5).bind fun v2 =>
if v2 ≤ a1 then (some (0 : Int32))
else (some (1 : Int32))) : Option Int32).bind fun v1 =>
(qz v1).bind fun z =>
some z
abbrev rmX0_has : Room := { frames := 0, cells := 0, slots := 0, locals := 0 }
theorem fX0_has_is {F : Nat} {X : qH} {a0 : Nat} {a1 : Int32} {r9 : Int32} (h : fX0_has F X a0 a1 = some r9) : ∃ fs, X a0 = some (.inr (0, fs)) := (qIs_spec h).1
theorem hdX0_has : yX0_has.cls = RX0 ∧ yX0_has.cls ≠ "java/lang/invoke/MethodHandle" ∧ yX0_has.cls ≠ "java/lang/invoke/VarHandle" ∧ (parseMethodDescriptor yX0_has.desc).map (fun d => d.parameters.length) = some 1 := by decide +kernel
set_option maxHeartbeats 4000000 in
set_option maxRecDepth 100000 in
theorem mX0_has (l : Launch) (D : va_G) (kz : Nat → Nat) (b0 F : Nat) (X : qH) (a0 : Nat) (a1 : Int32) (r : Int32) (hf : fX0_has F X a0 a1 = some r) : Met l yX0_has (qws yX0_has cX0_has 2 (some .boolean)) rmX0_has (va_Pc [.ref a0, .int a1] (qU D kz b0 X)) (va_Qi (fun (r' : Int32) (u : qH) => r' = r ∧ u = X) (fun u t => qO D kz b0 u t) (qA b0)) 0 0 (qA b0) := by
  refine q_start (by decide) (Nat.le_of_ble_eq_true rfl) ?_
  intro p e s m args below meth c hx hb hr hlocks hnm hml hown hT hR hK hz ls hl
  have hown : s.vm.findClass RX0 = some m.cls := hown
  have hl : lv_has ls 2 [(0, .ref a0), (1, .int a1)] := hl
  have hS : va_S (qA b0) s.heap s.heap [] := va_S.rf
  obtain ⟨Q, hQ⟩ : ∃ Q, Q = MQ below (va_Qi (fun (r' : Int32) (u : qH) => r' = r ∧ u = X) (fun u t => qO D kz b0 u t) (qA b0)) args s 0 0 (qA b0) := ⟨_, rfl⟩
  rw [← hQ]
  unfold fX0_has at hf
  obtain ⟨hthis, hf⟩ := qIs_spec hf
  refine lv_iload_n hx hb dX0_has_0 rfl (lv_at hl 1 rfl) ?_
  obtain ⟨v1, hp, hf⟩ := q_b hf
  have hJ : ∀ (H : Heap) (locs : List Loc) (ls : Array Slot), qR D kz b0 X H → va_S (qA b0) s.heap H locs → b0 ≤ H.size → lv_has ls 2 [] → W p l e rmX0_has s m args below meth c H locs 0 0 Q (F0 m 17 ls [.int v1]) := by
    intro H locs ls hR hS hz hl
    subst hQ
    obtain ⟨z9, hz9, hf⟩ := q_b hf
    obtain ⟨rfl, h01⟩ := qz_spec hz9
    exact q_zret hx hb hr hlocks hR hS hz (Option.some.inj hf) h01 rfl dX0_has_17
  have hf := hp
  refine lv_if_lt (tgt := 16) hx hb dX0_has_1 (by decide) (fun hc => ?_) (fun hc => ?_)
  · have hf := q_t hf hc
    refine lv_iconst (v := (0 : Int32)) hx hb dX0_has_16 (by decide) ?_
    cases hf
    exact hJ _ _ _ hR hS hz (lv_sub hl [] rfl)
  · have hf := q_f hf hc
    refine lv_iload_n hx hb dX0_has_4 rfl (lv_at hl 1 rfl) ?_
    refine lv_aload_n hx hb dX0_has_5 rfl (lv_at hl 0 rfl) ?_
    refine q_gI hx hb hT hown hK hR iqX0 vqX0 5 (by decide) (hT _ wfl_X0_43) hf dX0_has_6 (fun v2 hf => ?_)
    refine lv_icmp_ge (tgt := 16) hx hb dX0_has_9 (by decide) (fun hc => ?_) (fun hc => ?_)
    · have hf := q_t hf hc
      refine lv_iconst (v := (0 : Int32)) hx hb dX0_has_16 (by decide) ?_
      cases hf
      exact hJ _ _ _ hR hS hz (lv_sub hl [] rfl)
    · have hf := q_f hf hc
      refine lv_iconst (v := (1 : Int32)) hx hb dX0_has_12 (by decide) ?_
      refine lv_goto (tgt := 17) hx hb dX0_has_13 (by decide) ?_
      cases hf
      exact hJ _ _ _ hR hS hz (lv_sub hl [] rfl)
/-! X0_hasTwo -/
def fX0_hasTwo (F : Nat) (X : qH) (a0 : Nat) (a1 : Int32) (a2 : Int32) : Option (Int32) :=
qIs 0 X a0 <|
(fX0_has F X a0 a1).bind fun v1 =>
(if v1 = (0 : Int32) then (some (0 : Int32))
else ((fX0_has F X a0 a2).bind fun v3 =>
if v3 = (0 : Int32) then (some (0 : Int32))
else (if a1 = a2 then (some (0 : Int32))
else (some (1 : Int32)))) : Option Int32).bind fun v2 =>
(qz v2).bind fun z =>
some z
abbrev rmX0_hasTwo : Room := { frames := 1, cells := 0, slots := 0, locals := 21 }
theorem fX0_hasTwo_is {F : Nat} {X : qH} {a0 : Nat} {a1 : Int32} {a2 : Int32} {r9 : Int32} (h : fX0_hasTwo F X a0 a1 a2 = some r9) : ∃ fs, X a0 = some (.inr (0, fs)) := (qIs_spec h).1
theorem hdX0_hasTwo : yX0_hasTwo.cls = RX0 ∧ yX0_hasTwo.cls ≠ "java/lang/invoke/MethodHandle" ∧ yX0_hasTwo.cls ≠ "java/lang/invoke/VarHandle" ∧ (parseMethodDescriptor yX0_hasTwo.desc).map (fun d => d.parameters.length) = some 2 := by decide +kernel
set_option maxHeartbeats 4000000 in
set_option maxRecDepth 100000 in
theorem mX0_hasTwo (l : Launch) (D : va_G) (kz : Nat → Nat) (b0 F : Nat) (X : qH) (a0 : Nat) (a1 : Int32) (a2 : Int32) (r : Int32) (hf : fX0_hasTwo F X a0 a1 a2 = some r) : Met l yX0_hasTwo (qws yX0_hasTwo cX0_hasTwo 3 (some .boolean)) rmX0_hasTwo (va_Pc [.ref a0, .int a1, .int a2] (qU D kz b0 X)) (va_Qi (fun (r' : Int32) (u : qH) => r' = r ∧ u = X) (fun u t => qO D kz b0 u t) (qA b0)) 0 0 (qA b0) := by
  refine q_start (by decide) (Nat.le_of_ble_eq_true rfl) ?_
  intro p e s m args below meth c hx hb hr hlocks hnm hml hown hT hR hK hz ls hl
  have hown : s.vm.findClass RX0 = some m.cls := hown
  have hl : lv_has ls 3 [(0, .ref a0), (1, .int a1), (2, .int a2)] := hl
  have hS : va_S (qA b0) s.heap s.heap [] := va_S.rf
  obtain ⟨Q, hQ⟩ : ∃ Q, Q = MQ below (va_Qi (fun (r' : Int32) (u : qH) => r' = r ∧ u = X) (fun u t => qO D kz b0 u t) (qA b0)) args s 0 0 (qA b0) := ⟨_, rfl⟩
  rw [← hQ]
  unfold fX0_hasTwo at hf
  obtain ⟨hthis, hf⟩ := qIs_spec hf
  refine lv_aload_n hx hb dX0_hasTwo_0 rfl (lv_at hl 0 rfl) ?_
  refine lv_iload_n hx hb dX0_hasTwo_1 rfl (lv_at hl 1 rfl) ?_
  obtain ⟨v1, hc, hf⟩ := q_b hf
  refine q_calli (va_runV (As := [.int a1]) (rest := []) ⟨hx, hb, hml, hown, hT⟩ (mX0_has l D kz b0 F X a0 a1 v1 hc) (cwV 1 hT (q_gV wco_X0_has wml_X0_46 wim_X0_has wse_X0_has win_X0) rfl rfl rfl hdX0_has ⟨Nat.le_of_ble_eq_true rfl, Nat.le_of_ble_eq_true rfl⟩) (q_preV vqX0 (fX0_has_is hc) hR hK hz) rfl rfl hl.1 rfl (lv_room (Nat.le_of_ble_eq_true rfl)) dX0_hasTwo_2 ⟨Nat.le_of_ble_eq_true rfl, Nat.le_of_ble_eq_true rfl⟩) hS (fun H locs hR hS hz => ?_)
  obtain ⟨v2, hp, hf⟩ := q_b hf
  have hJ : ∀ (H : Heap) (locs : List Loc) (ls : Array Slot), qR D kz b0 X H → va_S (qA b0) s.heap H locs → b0 ≤ H.size → lv_has ls 3 [] → W p l e rmX0_hasTwo s m args below meth c H locs 0 0 Q (F0 m 26 ls [.int v2]) := by
    intro H locs ls hR hS hz hl
    subst hQ
    obtain ⟨z9, hz9, hf⟩ := q_b hf
    obtain ⟨rfl, h01⟩ := qz_spec hz9
    exact q_zret hx hb hr hlocks hR hS hz (Option.some.inj hf) h01 rfl dX0_hasTwo_26
  have hf := hp
  refine lv_if_eq (tgt := 25) hx hb dX0_hasTwo_5 (by decide) (fun hc => ?_) (fun hc => ?_)
  · have hf := q_t hf hc
    refine lv_iconst (v := (0 : Int32)) hx hb dX0_hasTwo_25 (by decide) ?_
    cases hf
    exact hJ _ _ _ hR hS hz (lv_sub hl [] rfl)
  · have hf := q_f hf hc
    refine lv_aload_n hx hb dX0_hasTwo_8 rfl (lv_at hl 0 rfl) ?_
    refine lv_iload_n hx hb dX0_hasTwo_9 rfl (lv_at hl 2 rfl) ?_
    obtain ⟨v3, hc, hf⟩ := q_b hf
    refine q_calli (va_runV (As := [.int a2]) (rest := []) ⟨hx, hb, hml, hown, hT⟩ (mX0_has l D kz b0 F X a0 a2 v3 hc) (cwV 1 hT (q_gV wco_X0_has wml_X0_46 wim_X0_has wse_X0_has win_X0) rfl rfl rfl hdX0_has ⟨Nat.le_of_ble_eq_true rfl, Nat.le_of_ble_eq_true rfl⟩) (q_preV vqX0 (fX0_has_is hc) hR hK hz) rfl rfl hl.1 rfl (lv_room (Nat.le_of_ble_eq_true rfl)) dX0_hasTwo_10 ⟨Nat.le_of_ble_eq_true rfl, Nat.le_of_ble_eq_true rfl⟩) hS (fun H locs hR hS hz => ?_)
    refine lv_if_eq (tgt := 25) hx hb dX0_hasTwo_13 (by decide) (fun hc => ?_) (fun hc => ?_)
    · have hf := q_t hf hc
      refine lv_iconst (v := (0 : Int32)) hx hb dX0_hasTwo_25 (by decide) ?_
      cases hf
      exact hJ _ _ _ hR hS hz (lv_sub hl [] rfl)
    · have hf := q_f hf hc
      refine lv_iload_n hx hb dX0_hasTwo_16 rfl (lv_at hl 1 rfl) ?_
      refine lv_iload_n hx hb dX0_hasTwo_17 rfl (lv_at hl 2 rfl) ?_
      refine lv_icmp_eq (tgt := 25) hx hb dX0_hasTwo_18 (by decide) (fun hc => ?_) (fun hc => ?_)
      · have hf := q_t hf hc
        refine lv_iconst (v := (0 : Int32)) hx hb dX0_hasTwo_25 (by decide) ?_
        cases hf
        exact hJ _ _ _ hR hS hz (lv_sub hl [] rfl)
      · have hf := q_f hf hc
        refine lv_iconst (v := (1 : Int32)) hx hb dX0_hasTwo_21 (by decide) ?_
        refine lv_goto (tgt := 26) hx hb dX0_hasTwo_22 (by decide) ?_
        cases hf
        exact hJ _ _ _ hR hS hz (lv_sub hl [] rfl)
/-! X0_hasAll -/
def fX0_hasAll (F : Nat) (X : qH) (a0 : Nat) (a1 : Int32) : Option (Int32) :=
qIs 0 X a0 <|
(if a1 < (0 : Int32) then (some (0 : Int32))
else ((qgI X 0 a0 5).bind fun v2 =>
if ((1 : Int32) <<< (v2 &&& 31)) ≤ a1 then (some (0 : Int32))
else (some (1 : Int32))) : Option Int32).bind fun v1 =>
(qz v1).bind fun z =>
some z
abbrev rmX0_hasAll : Room := { frames := 0, cells := 0, slots := 0, locals := 0 }
theorem fX0_hasAll_is {F : Nat} {X : qH} {a0 : Nat} {a1 : Int32} {r9 : Int32} (h : fX0_hasAll F X a0 a1 = some r9) : ∃ fs, X a0 = some (.inr (0, fs)) := (qIs_spec h).1
theorem hdX0_hasAll : yX0_hasAll.cls = RX0 ∧ yX0_hasAll.cls ≠ "java/lang/invoke/MethodHandle" ∧ yX0_hasAll.cls ≠ "java/lang/invoke/VarHandle" ∧ (parseMethodDescriptor yX0_hasAll.desc).map (fun d => d.parameters.length) = some 1 := by decide +kernel
set_option maxHeartbeats 4000000 in
set_option maxRecDepth 100000 in
theorem mX0_hasAll (l : Launch) (D : va_G) (kz : Nat → Nat) (b0 F : Nat) (X : qH) (a0 : Nat) (a1 : Int32) (r : Int32) (hf : fX0_hasAll F X a0 a1 = some r) : Met l yX0_hasAll (qws yX0_hasAll cX0_hasAll 2 (some .boolean)) rmX0_hasAll (va_Pc [.ref a0, .int a1] (qU D kz b0 X)) (va_Qi (fun (r' : Int32) (u : qH) => r' = r ∧ u = X) (fun u t => qO D kz b0 u t) (qA b0)) 0 0 (qA b0) := by
  refine q_start (by decide) (Nat.le_of_ble_eq_true rfl) ?_
  intro p e s m args below meth c hx hb hr hlocks hnm hml hown hT hR hK hz ls hl
  have hown : s.vm.findClass RX0 = some m.cls := hown
  have hl : lv_has ls 2 [(0, .ref a0), (1, .int a1)] := hl
  have hS : va_S (qA b0) s.heap s.heap [] := va_S.rf
  obtain ⟨Q, hQ⟩ : ∃ Q, Q = MQ below (va_Qi (fun (r' : Int32) (u : qH) => r' = r ∧ u = X) (fun u t => qO D kz b0 u t) (qA b0)) args s 0 0 (qA b0) := ⟨_, rfl⟩
  rw [← hQ]
  unfold fX0_hasAll at hf
  obtain ⟨hthis, hf⟩ := qIs_spec hf
  refine lv_iload_n hx hb dX0_hasAll_0 rfl (lv_at hl 1 rfl) ?_
  obtain ⟨v1, hp, hf⟩ := q_b hf
  have hJ : ∀ (H : Heap) (locs : List Loc) (ls : Array Slot), qR D kz b0 X H → va_S (qA b0) s.heap H locs → b0 ≤ H.size → lv_has ls 2 [] → W p l e rmX0_hasAll s m args below meth c H locs 0 0 Q (F0 m 19 ls [.int v1]) := by
    intro H locs ls hR hS hz hl
    subst hQ
    obtain ⟨z9, hz9, hf⟩ := q_b hf
    obtain ⟨rfl, h01⟩ := qz_spec hz9
    exact q_zret hx hb hr hlocks hR hS hz (Option.some.inj hf) h01 rfl dX0_hasAll_19
  have hf := hp
  refine lv_if_lt (tgt := 18) hx hb dX0_hasAll_1 (by decide) (fun hc => ?_) (fun hc => ?_)
  · have hf := q_t hf hc
    refine lv_iconst (v := (0 : Int32)) hx hb dX0_hasAll_18 (by decide) ?_
    cases hf
    exact hJ _ _ _ hR hS hz (lv_sub hl [] rfl)
  · have hf := q_f hf hc
    refine lv_iload_n hx hb dX0_hasAll_4 rfl (lv_at hl 1 rfl) ?_
    refine lv_iconst (v := (1 : Int32)) hx hb dX0_hasAll_5 (by decide) ?_
    refine lv_aload_n hx hb dX0_hasAll_6 rfl (lv_at hl 0 rfl) ?_
    refine q_gI hx hb hT hown hK hR iqX0 vqX0 5 (by decide) (hT _ wfl_X0_43) hf dX0_hasAll_7 (fun v2 hf => ?_)
    refine lv_ishl hx hb dX0_hasAll_10 ?_
    refine lv_icmp_ge (tgt := 18) hx hb dX0_hasAll_11 (by decide) (fun hc => ?_) (fun hc => ?_)
    · have hf := q_t hf hc
      refine lv_iconst (v := (0 : Int32)) hx hb dX0_hasAll_18 (by decide) ?_
      cases hf
      exact hJ _ _ _ hR hS hz (lv_sub hl [] rfl)
    · have hf := q_f hf hc
      refine lv_iconst (v := (1 : Int32)) hx hb dX0_hasAll_14 (by decide) ?_
      refine lv_goto (tgt := 19) hx hb dX0_hasAll_15 (by decide) ?_
      cases hf
      exact hJ _ _ _ hR hS hz (lv_sub hl [] rfl)
/-! X0_apart -/
def fX0_apart (F : Nat) (X : qH) (a0 : Nat) (a1 : Int32) (a2 : Int32) : Option (Int32) :=
qIs 0 X a0 <|
(qgR X 0 a0 6).bind fun v1 =>
(qaI X 0 v1 a1).bind fun v2 =>
(qgR X 0 a0 6).bind fun v3 =>
(qaI X 0 v3 a2).bind fun v4 =>
qlt (if 0 ≤ (v2 - v4) then (v2 - v4) else 0 - (v2 - v4)) fun v5 =>
some v5
abbrev rmX0_apart : Room := { frames := 1, cells := 0, slots := 0, locals := 21 }
theorem fX0_apart_is {F : Nat} {X : qH} {a0 : Nat} {a1 : Int32} {a2 : Int32} {r9 : Int32} (h : fX0_apart F X a0 a1 a2 = some r9) : ∃ fs, X a0 = some (.inr (0, fs)) := (qIs_spec h).1
theorem hdX0_apart : yX0_apart.cls = RX0 ∧ yX0_apart.cls ≠ "java/lang/invoke/MethodHandle" ∧ yX0_apart.cls ≠ "java/lang/invoke/VarHandle" ∧ (parseMethodDescriptor yX0_apart.desc).map (fun d => d.parameters.length) = some 2 := by decide +kernel
set_option maxHeartbeats 4000000 in
set_option maxRecDepth 100000 in
theorem mX0_apart (l : Launch) (D : va_G) (kz : Nat → Nat) (b0 F : Nat) (X : qH) (a0 : Nat) (a1 : Int32) (a2 : Int32) (r : Int32) (hf : fX0_apart F X a0 a1 a2 = some r) : Met l yX0_apart (qws yX0_apart cX0_apart 3 (some .int)) rmX0_apart (va_Pc [.ref a0, .int a1, .int a2] (qU D kz b0 X)) (va_Qi (fun (r' : Int32) (u : qH) => r' = r ∧ u = X) (fun u t => qO D kz b0 u t) (qA b0)) 0 0 (qA b0) := by
  refine q_start (by decide) (Nat.le_of_ble_eq_true rfl) ?_
  intro p e s m args below meth c hx hb hr hlocks hnm hml hown hT hR hK hz ls hl
  have hown : s.vm.findClass RX0 = some m.cls := hown
  have hl : lv_has ls 3 [(0, .ref a0), (1, .int a1), (2, .int a2)] := hl
  have hS : va_S (qA b0) s.heap s.heap [] := va_S.rf
  obtain ⟨Q, hQ⟩ : ∃ Q, Q = MQ below (va_Qi (fun (r' : Int32) (u : qH) => r' = r ∧ u = X) (fun u t => qO D kz b0 u t) (qA b0)) args s 0 0 (qA b0) := ⟨_, rfl⟩
  rw [← hQ]
  unfold fX0_apart at hf
  obtain ⟨hthis, hf⟩ := qIs_spec hf
  refine lv_aload_n hx hb dX0_apart_0 rfl (lv_at hl 0 rfl) ?_
  refine q_gR hx hb hT hown hK hR iqX0 vqX0 6 (by decide) (hT _ wfl_X0_9) hf dX0_apart_1 (fun v1 hf => ?_)
  refine lv_iload_n hx hb dX0_apart_4 rfl (lv_at hl 1 rfl) ?_
  refine q_iald hx hb hK hR hf dX0_apart_5 (fun v2 hf => ?_)
  refine lv_aload_n hx hb dX0_apart_6 rfl (lv_at hl 0 rfl) ?_
  refine q_gR hx hb hT hown hK hR iqX0 vqX0 6 (by decide) (hT _ wfl_X0_9) hf dX0_apart_7 (fun v3 hf => ?_)
  refine lv_iload_n hx hb dX0_apart_10 rfl (lv_at hl 2 rfl) ?_
  refine q_iald hx hb hK hR hf dX0_apart_11 (fun v4 hf => ?_)
  refine lv_isub hx hb dX0_apart_12 ?_
  refine va_mabs hx hb (hml.trans hl.1.symm) hown (hT _ wml_X0_50) (hT _ wst_Mabs) (hT _ win_Math) (hT _ wco_Mabs) (Nat.le_of_ble_eq_true rfl) (Nat.le_of_ble_eq_true rfl) (Nat.le_of_ble_eq_true rfl) (Nat.le_of_ble_eq_true rfl) dX0_apart_13 ?_
  refine lv_topi (fun v5 ev5 => ?_)
  have hf := q_lt ev5 hf
  subst hQ
  exact q_iret hx hb hr hlocks hR hS hz (Option.some.inj hf) rfl dX0_apart_16
/-! X0_houseOn -/
def fX0_houseOn_L2_B (F : Nat) (X : qH) (a0 : Nat) (a1 : Int32) (self0 : Int32 → Option ((Int32) ⊕ (Unit))) (v1 : Int32) : Option ((Int32) ⊕ (Unit)) :=
(qgI X 0 a0 5).bind fun v2 =>
if v2 ≤ v1 then (some (.inr ()))
else ((qgR X 0 a0 6).bind fun v3 =>
(qaI X 0 v3 v1).bind fun v4 =>
if v4 = a1 then (some (.inl v1))
else (qlt (v1 + (1 : Int32)) fun v5 =>
self0 v5))
def fX0_houseOn_L2 (F : Nat) (X : qH) (a0 : Nat) (a1 : Int32) : Nat → Int32 → Option ((Int32) ⊕ (Unit))
  | 0, _ => none
  | n + 1, v1 => fX0_houseOn_L2_B F X a0 a1 (fX0_houseOn_L2 F X a0 a1 n) v1
def fX0_houseOn (F : Nat) (X : qH) (a0 : Nat) (a1 : Int32) : Option (Int32) :=
qIs 0 X a0 <|
(fX0_houseOn_L2 F X a0 a1 F (0 : Int32)).bind fun o6 => qsm0 o6 (fun z => some z) <|
some (-1 : Int32)
abbrev rmX0_houseOn : Room := { frames := 0, cells := 0, slots := 0, locals := 0 }
theorem fX0_houseOn_is {F : Nat} {X : qH} {a0 : Nat} {a1 : Int32} {r9 : Int32} (h : fX0_houseOn F X a0 a1 = some r9) : ∃ fs, X a0 = some (.inr (0, fs)) := (qIs_spec h).1
theorem hdX0_houseOn : yX0_houseOn.cls = RX0 ∧ yX0_houseOn.cls ≠ "java/lang/invoke/MethodHandle" ∧ yX0_houseOn.cls ≠ "java/lang/invoke/VarHandle" ∧ (parseMethodDescriptor yX0_houseOn.desc).map (fun d => d.parameters.length) = some 1 := by decide +kernel
set_option maxHeartbeats 4000000 in
set_option maxRecDepth 100000 in
theorem mX0_houseOn (l : Launch) (D : va_G) (kz : Nat → Nat) (b0 F : Nat) (X : qH) (a0 : Nat) (a1 : Int32) (r : Int32) (hf : fX0_houseOn F X a0 a1 = some r) : Met l yX0_houseOn (qws yX0_houseOn cX0_houseOn 3 (some .int)) rmX0_houseOn (va_Pc [.ref a0, .int a1] (qU D kz b0 X)) (va_Qi (fun (r' : Int32) (u : qH) => r' = r ∧ u = X) (fun u t => qO D kz b0 u t) (qA b0)) 0 0 (qA b0) := by
  refine q_start (by decide) (Nat.le_of_ble_eq_true rfl) ?_
  intro p e s m args below meth c hx hb hr hlocks hnm hml hown hT hR hK hz ls hl
  have hown : s.vm.findClass RX0 = some m.cls := hown
  have hl : lv_has ls 3 [(0, .ref a0), (1, .int a1)] := hl
  have hS : va_S (qA b0) s.heap s.heap [] := va_S.rf
  obtain ⟨Q, hQ⟩ : ∃ Q, Q = MQ below (va_Qi (fun (r' : Int32) (u : qH) => r' = r ∧ u = X) (fun u t => qO D kz b0 u t) (qA b0)) args s 0 0 (qA b0) := ⟨_, rfl⟩
  rw [← hQ]
  unfold fX0_houseOn at hf
  obtain ⟨hthis, hf⟩ := qIs_spec hf
  refine lv_iconst (v := (0 : Int32)) hx hb dX0_houseOn_0 (by decide) ?_
  refine lv_istore_n (lv' := [(2, .int (0 : Int32)), (0, .ref a0), (1, .int a1)]) hx hb dX0_houseOn_1 rfl hl (by decide) rfl (fun ls hl => ?_)
  obtain ⟨o6, ho, hf⟩ := q_b hf
  have hL : ∀ (n : Nat) (v1 : Int32) (out : (Int32) ⊕ (Unit)), fX0_houseOn_L2 F X a0 a1 n v1 = some out → (∀ z, out = .inl z → z = r) → (out = .inr () → ∀ (H : Heap) (locs : List Loc) (ls : Array Slot), qR D kz b0 X H → va_S (qA b0) s.heap H locs → b0 ≤ H.size → lv_has ls 3 [] → W p l e rmX0_houseOn s m args below meth c H locs 0 0 Q (F0 m 28 ls [])) → ∀ (H : Heap) (locs : List Loc) (ls : Array Slot), qR D kz b0 X H → va_S (qA b0) s.heap H locs → b0 ≤ H.size → lv_has ls 3 [(0, .ref a0), (1, .int a1), (2, .int v1)] → W p l e rmX0_houseOn s m args below meth c H locs 0 0 Q (F0 m 2 ls []) := by
    intro n9
    induction n9 with
    | zero =>
      intro v1 out hf
      exact absurd (show none = some out from hf) (by simp)
    | succ n9 ih0 =>
      intro v1 out hf hret hex H locs ls hR hS hz hl
      have hf : fX0_houseOn_L2_B F X a0 a1 (fX0_houseOn_L2 F X a0 a1 n9) v1 = some out := hf
      unfold fX0_houseOn_L2_B at hf
      refine lv_iload_n hx hb dX0_houseOn_2 rfl (lv_at hl 2 rfl) ?_
      refine lv_aload_n hx hb dX0_houseOn_3 rfl (lv_at hl 0 rfl) ?_
      refine q_gI hx hb hT hown hK hR iqX0 vqX0 5 (by decide) (hT _ wfl_X0_43) hf dX0_houseOn_4 (fun v2 hf => ?_)
      refine lv_icmp_ge (tgt := 28) hx hb dX0_houseOn_7 (by decide) (fun hc => ?_) (fun hc => ?_)
      · have hf := q_t hf hc
        exact hex  (Option.some.inj hf).symm _ _ _ hR hS hz (lv_sub hl [] rfl)
      · have hf := q_f hf hc
        refine lv_aload_n hx hb dX0_houseOn_10 rfl (lv_at hl 0 rfl) ?_
        refine q_gR hx hb hT hown hK hR iqX0 vqX0 6 (by decide) (hT _ wfl_X0_9) hf dX0_houseOn_11 (fun v3 hf => ?_)
        refine lv_iload_n hx hb dX0_houseOn_14 rfl (lv_at hl 2 rfl) ?_
        refine q_iald hx hb hK hR hf dX0_houseOn_15 (fun v4 hf => ?_)
        refine lv_iload_n hx hb dX0_houseOn_16 rfl (lv_at hl 1 rfl) ?_
        refine lv_icmp_ne (tgt := 22) hx hb dX0_houseOn_17 (by decide) (fun hc => ?_) (fun hc => ?_)
        · have hf := q_f hf hc
          obtain ⟨v5, ev5⟩ : ∃ y : Int32, y = (v1 + (1 : Int32)) := ⟨_, rfl⟩
          have hf := q_lt ev5 hf
          refine lv_iinc (v := v5) (lv' := [(2, .int v5), (0, .ref a0), (1, .int a1)]) hx hb dX0_houseOn_22 hl (k := 2) rfl (by rw [ev5]; rfl) (by decide) rfl (fun ls hl => ?_)
          refine lv_goto (tgt := 2) hx hb dX0_houseOn_25 (by decide) ?_
          exact ih0 _ out hf hret hex _ _ _ hR hS hz (lv_sub hl [1, 2, 0] rfl)
        · have hf := q_t hf hc
          refine lv_iload_n hx hb dX0_houseOn_20 rfl (lv_at hl 2 rfl) ?_
          subst hQ
          exact q_iret hx hb hr hlocks hR hS hz (hret _ (Option.some.inj hf).symm) rfl dX0_houseOn_21
  refine hL F _ o6 ho (fun z hz9 => by subst hz9; exact Option.some.inj hf) (fun  h9 => ?_) _ _ _ hR hS hz (lv_sub hl [1, 2, 0] rfl)
  subst h9
  intro H locs ls hR hS hz hl
  have hf := qsm0_r hf
  refine lv_iconst (v := (-1 : Int32)) hx hb dX0_houseOn_28 (by decide) ?_
  subst hQ
  exact q_iret hx hb hr hlocks hR hS hz (Option.some.inj hf) rfl dX0_houseOn_29
/-! X0_houseOfStars -/
def fX0_houseOfStars_L2_B (F : Nat) (X : qH) (a0 : Nat) (a1 : Int32) (self0 : Int32 → Option ((Int32) ⊕ (Unit))) (v1 : Int32) : Option ((Int32) ⊕ (Unit)) :=
(qgI X 0 a0 5).bind fun v2 =>
if v2 ≤ v1 then (some (.inr ()))
else ((qgR X 0 a0 9).bind fun v3 =>
(qaI X 0 v3 v1).bind fun v4 =>
if v4 = a1 then (some (.inl v1))
else (qlt (v1 + (1 : Int32)) fun v5 =>
self0 v5))
def fX0_houseOfStars_L2 (F : Nat) (X : qH) (a0 : Nat) (a1 : Int32) : Nat → Int32 → Option ((Int32) ⊕ (Unit))
  | 0, _ => none
  | n + 1, v1 => fX0_houseOfStars_L2_B F X a0 a1 (fX0_houseOfStars_L2 F X a0 a1 n) v1
def fX0_houseOfStars (F : Nat) (X : qH) (a0 : Nat) (a1 : Int32) : Option (Int32) :=
qIs 0 X a0 <|
(fX0_houseOfStars_L2 F X a0 a1 F (0 : Int32)).bind fun o6 => qsm0 o6 (fun z => some z) <|
some (-1 : Int32)
abbrev rmX0_houseOfStars : Room := { frames := 0, cells := 0, slots := 0, locals := 0 }
theorem fX0_houseOfStars_is {F : Nat} {X : qH} {a0 : Nat} {a1 : Int32} {r9 : Int32} (h : fX0_houseOfStars F X a0 a1 = some r9) : ∃ fs, X a0 = some (.inr (0, fs)) := (qIs_spec h).1
theorem hdX0_houseOfStars : yX0_houseOfStars.cls = RX0 ∧ yX0_houseOfStars.cls ≠ "java/lang/invoke/MethodHandle" ∧ yX0_houseOfStars.cls ≠ "java/lang/invoke/VarHandle" ∧ (parseMethodDescriptor yX0_houseOfStars.desc).map (fun d => d.parameters.length) = some 1 := by decide +kernel
set_option maxHeartbeats 4000000 in
set_option maxRecDepth 100000 in
theorem mX0_houseOfStars (l : Launch) (D : va_G) (kz : Nat → Nat) (b0 F : Nat) (X : qH) (a0 : Nat) (a1 : Int32) (r : Int32) (hf : fX0_houseOfStars F X a0 a1 = some r) : Met l yX0_houseOfStars (qws yX0_houseOfStars cX0_houseOfStars 3 (some .int)) rmX0_houseOfStars (va_Pc [.ref a0, .int a1] (qU D kz b0 X)) (va_Qi (fun (r' : Int32) (u : qH) => r' = r ∧ u = X) (fun u t => qO D kz b0 u t) (qA b0)) 0 0 (qA b0) := by
  refine q_start (by decide) (Nat.le_of_ble_eq_true rfl) ?_
  intro p e s m args below meth c hx hb hr hlocks hnm hml hown hT hR hK hz ls hl
  have hown : s.vm.findClass RX0 = some m.cls := hown
  have hl : lv_has ls 3 [(0, .ref a0), (1, .int a1)] := hl
  have hS : va_S (qA b0) s.heap s.heap [] := va_S.rf
  obtain ⟨Q, hQ⟩ : ∃ Q, Q = MQ below (va_Qi (fun (r' : Int32) (u : qH) => r' = r ∧ u = X) (fun u t => qO D kz b0 u t) (qA b0)) args s 0 0 (qA b0) := ⟨_, rfl⟩
  rw [← hQ]
  unfold fX0_houseOfStars at hf
  obtain ⟨hthis, hf⟩ := qIs_spec hf
  refine lv_iconst (v := (0 : Int32)) hx hb dX0_houseOfStars_0 (by decide) ?_
  refine lv_istore_n (lv' := [(2, .int (0 : Int32)), (0, .ref a0), (1, .int a1)]) hx hb dX0_houseOfStars_1 rfl hl (by decide) rfl (fun ls hl => ?_)
  obtain ⟨o6, ho, hf⟩ := q_b hf
  have hL : ∀ (n : Nat) (v1 : Int32) (out : (Int32) ⊕ (Unit)), fX0_houseOfStars_L2 F X a0 a1 n v1 = some out → (∀ z, out = .inl z → z = r) → (out = .inr () → ∀ (H : Heap) (locs : List Loc) (ls : Array Slot), qR D kz b0 X H → va_S (qA b0) s.heap H locs → b0 ≤ H.size → lv_has ls 3 [] → W p l e rmX0_houseOfStars s m args below meth c H locs 0 0 Q (F0 m 28 ls [])) → ∀ (H : Heap) (locs : List Loc) (ls : Array Slot), qR D kz b0 X H → va_S (qA b0) s.heap H locs → b0 ≤ H.size → lv_has ls 3 [(0, .ref a0), (1, .int a1), (2, .int v1)] → W p l e rmX0_houseOfStars s m args below meth c H locs 0 0 Q (F0 m 2 ls []) := by
    intro n9
    induction n9 with
    | zero =>
      intro v1 out hf
      exact absurd (show none = some out from hf) (by simp)
    | succ n9 ih0 =>
      intro v1 out hf hret hex H locs ls hR hS hz hl
      have hf : fX0_houseOfStars_L2_B F X a0 a1 (fX0_houseOfStars_L2 F X a0 a1 n9) v1 = some out := hf
      unfold fX0_houseOfStars_L2_B at hf
      refine lv_iload_n hx hb dX0_houseOfStars_2 rfl (lv_at hl 2 rfl) ?_
      refine lv_aload_n hx hb dX0_houseOfStars_3 rfl (lv_at hl 0 rfl) ?_
      refine q_gI hx hb hT hown hK hR iqX0 vqX0 5 (by decide) (hT _ wfl_X0_43) hf dX0_houseOfStars_4 (fun v2 hf => ?_)
      refine lv_icmp_ge (tgt := 28) hx hb dX0_houseOfStars_7 (by decide) (fun hc => ?_) (fun hc => ?_)
      · have hf := q_t hf hc
        exact hex  (Option.some.inj hf).symm _ _ _ hR hS hz (lv_sub hl [] rfl)
      · have hf := q_f hf hc
        refine lv_aload_n hx hb dX0_houseOfStars_10 rfl (lv_at hl 0 rfl) ?_
        refine q_gR hx hb hT hown hK hR iqX0 vqX0 9 (by decide) (hT _ wfl_X0_21) hf dX0_houseOfStars_11 (fun v3 hf => ?_)
        refine lv_iload_n hx hb dX0_houseOfStars_14 rfl (lv_at hl 2 rfl) ?_
        refine q_iald hx hb hK hR hf dX0_houseOfStars_15 (fun v4 hf => ?_)
        refine lv_iload_n hx hb dX0_houseOfStars_16 rfl (lv_at hl 1 rfl) ?_
        refine lv_icmp_ne (tgt := 22) hx hb dX0_houseOfStars_17 (by decide) (fun hc => ?_) (fun hc => ?_)
        · have hf := q_f hf hc
          obtain ⟨v5, ev5⟩ : ∃ y : Int32, y = (v1 + (1 : Int32)) := ⟨_, rfl⟩
          have hf := q_lt ev5 hf
          refine lv_iinc (v := v5) (lv' := [(2, .int v5), (0, .ref a0), (1, .int a1)]) hx hb dX0_houseOfStars_22 hl (k := 2) rfl (by rw [ev5]; rfl) (by decide) rfl (fun ls hl => ?_)
          refine lv_goto (tgt := 2) hx hb dX0_houseOfStars_25 (by decide) ?_
          exact ih0 _ out hf hret hex _ _ _ hR hS hz (lv_sub hl [1, 2, 0] rfl)
        · have hf := q_t hf hc
          refine lv_iload_n hx hb dX0_houseOfStars_20 rfl (lv_at hl 2 rfl) ?_
          subst hQ
          exact q_iret hx hb hr hlocks hR hS hz (hret _ (Option.some.inj hf).symm) rfl dX0_houseOfStars_21
  refine hL F _ o6 ho (fun z hz9 => by subst hz9; exact Option.some.inj hf) (fun  h9 => ?_) _ _ _ hR hS hz (lv_sub hl [1, 2, 0] rfl)
  subst h9
  intro H locs ls hR hS hz hl
  have hf := qsm0_r hf
  refine lv_iconst (v := (-1 : Int32)) hx hb dX0_houseOfStars_28 (by decide) ?_
  subst hQ
  exact q_iret hx hb hr hlocks hR hS hz (Option.some.inj hf) rfl dX0_houseOfStars_29
/-! X8_greens -/
def fX8_greens_L4_B (F : Nat) (X : qH) (self0 : Int32 → Int32 → Option (Int32)) (v1 : Int32) (v2 : Int32) : Option (Int32) :=
if v2 ≤ (0 : Int32) then (some v1)
else ((if (v2 - v2 / (10 : Int32) * (10 : Int32)) = (3 : Int32) then (qlt (v1 + (1 : Int32)) fun v5 =>
some v5)
else (some v1) : Option Int32).bind fun v3 =>
qlt (v2 / (10 : Int32)) fun v4 =>
self0 v3 v4)
def fX8_greens_L4 (F : Nat) (X : qH) : Nat → Int32 → Int32 → Option (Int32)
  | 0, _, _ => none
  | n + 1, v1, v2 => fX8_greens_L4_B F X (fX8_greens_L4 F X n) v1 v2
def fX8_greens (F : Nat) (X : qH) (a0 : Int32) : Option (Int32) :=
(fX8_greens_L4 F X F (0 : Int32) a0).bind fun v6 =>
some v6
abbrev rmX8_greens : Room := { frames := 0, cells := 0, slots := 0, locals := 0 }
theorem hdX8_greens : yX8_greens.cls ≠ "java/lang/invoke/MethodHandle" ∧ yX8_greens.cls ≠ "java/lang/invoke/VarHandle" ∧ (parseMethodDescriptor yX8_greens.desc).map (fun d => d.parameters.length) = some 1 := by decide +kernel
set_option maxHeartbeats 4000000 in
set_option maxRecDepth 100000 in
theorem mX8_greens (l : Launch) (D : va_G) (kz : Nat → Nat) (b0 F : Nat) (X : qH) (a0 : Int32) (r : Int32) (hf : fX8_greens F X a0 = some r) : Met l yX8_greens (qws yX8_greens cX8_greens 3 (some .int)) rmX8_greens (va_Pc [.int a0] (qU D kz b0 X)) (va_Qi (fun (r' : Int32) (u : qH) => r' = r ∧ u = X) (fun u t => qO D kz b0 u t) (qA b0)) 0 0 (qA b0) := by
  refine q_start (by decide) (Nat.le_of_ble_eq_true rfl) ?_
  intro p e s m args below meth c hx hb hr hlocks hnm hml hown hT hR hK hz ls hl
  have hown : s.vm.findClass RX8 = some m.cls := hown
  have hl : lv_has ls 3 [(0, .int a0)] := hl
  have hS : va_S (qA b0) s.heap s.heap [] := va_S.rf
  obtain ⟨Q, hQ⟩ : ∃ Q, Q = MQ below (va_Qi (fun (r' : Int32) (u : qH) => r' = r ∧ u = X) (fun u t => qO D kz b0 u t) (qA b0)) args s 0 0 (qA b0) := ⟨_, rfl⟩
  rw [← hQ]
  unfold fX8_greens at hf
  refine lv_iconst (v := (0 : Int32)) hx hb dX8_greens_0 (by decide) ?_
  refine lv_istore_n (lv' := [(1, .int (0 : Int32)), (0, .int a0)]) hx hb dX8_greens_1 rfl hl (by decide) rfl (fun ls hl => ?_)
  refine lv_iload_n hx hb dX8_greens_2 rfl (lv_at hl 1 rfl) ?_
  refine lv_istore_n (lv' := [(2, .int a0), (1, .int (0 : Int32)), (0, .int a0)]) hx hb dX8_greens_3 rfl hl (by decide) rfl (fun ls hl => ?_)
  obtain ⟨v6, ho, hf⟩ := q_b hf
  have hL : ∀ (n : Nat) (v1 : Int32) (v2 : Int32) (out : Int32), fX8_greens_L4 F X n v1 v2 = some out → (∀ (v6 : Int32), out = v6 → ∀ (H : Heap) (locs : List Loc) (ls : Array Slot), qR D kz b0 X H → va_S (qA b0) s.heap H locs → b0 ≤ H.size → lv_has ls 3 [(1, .int v6)] → W p l e rmX8_greens s m args below meth c H locs 0 0 Q (F0 m 27 ls [])) → ∀ (H : Heap) (locs : List Loc) (ls : Array Slot), qR D kz b0 X H → va_S (qA b0) s.heap H locs → b0 ≤ H.size → lv_has ls 3 [(1, .int v1), (2, .int v2)] → W p l e rmX8_greens s m args below meth c H locs 0 0 Q (F0 m 4 ls []) := by
    intro n9
    induction n9 with
    | zero =>
      intro v1 v2 out hf
      exact absurd (show none = some out from hf) (by simp)
    | succ n9 ih0 =>
      intro v1 v2 out hf hex H locs ls hR hS hz hl
      have hf : fX8_greens_L4_B F X (fX8_greens_L4 F X n9) v1 v2 = some out := hf
      unfold fX8_greens_L4_B at hf
      refine lv_iload_n hx hb dX8_greens_4 rfl (lv_at hl 1 rfl) ?_
      refine lv_if_le (tgt := 27) hx hb dX8_greens_5 (by decide) (fun hc => ?_) (fun hc => ?_)
      · have hf := q_t hf hc
        exact hex _ (Option.some.inj hf).symm _ _ _ hR hS hz (lv_sub hl [0] rfl)
      · have hf := q_f hf hc
        refine lv_iload_n hx hb dX8_greens_8 rfl (lv_at hl 1 rfl) ?_
        refine lv_bipush (v := (10 : Int32)) hx hb dX8_greens_9 (by decide) ?_
        refine lv_irem hx hb dX8_greens_11 (by decide) ?_
        refine lv_iconst (v := (3 : Int32)) hx hb dX8_greens_12 (by decide) ?_
        obtain ⟨v3, hp, hf⟩ := q_b hf
        have hJ : ∀ (H : Heap) (locs : List Loc) (ls : Array Slot), qR D kz b0 X H → va_S (qA b0) s.heap H locs → b0 ≤ H.size → lv_has ls 3 [(1, .int v3), (2, .int v2)] → W p l e rmX8_greens s m args below meth c H locs 0 0 Q (F0 m 19 ls []) := by
          intro H locs ls hR hS hz hl
          refine lv_iload_n hx hb dX8_greens_19 rfl (lv_at hl 1 rfl) ?_
          refine lv_bipush (v := (10 : Int32)) hx hb dX8_greens_20 (by decide) ?_
          refine lv_idiv hx hb dX8_greens_22 (by decide) ?_
          refine lv_topi (fun v4 ev4 => ?_)
          have hf := q_lt ev4 hf
          refine lv_istore_n (lv' := [(2, .int v4), (1, .int v3)]) hx hb dX8_greens_23 rfl hl (by decide) rfl (fun ls hl => ?_)
          refine lv_goto (tgt := 4) hx hb dX8_greens_24 (by decide) ?_
          exact ih0 _ _ out hf hex _ _ _ hR hS hz (lv_sub hl [1, 0] rfl)
        have hf := hp
        refine lv_icmp_ne (tgt := 19) hx hb dX8_greens_13 (by decide) (fun hc => ?_) (fun hc => ?_)
        · have hf := q_f hf hc
          cases hf
          exact hJ _ _ _ hR hS hz (lv_sub hl [0, 1] rfl)
        · have hf := q_t hf hc
          obtain ⟨v5, ev5⟩ : ∃ y : Int32, y = (v1 + (1 : Int32)) := ⟨_, rfl⟩
          have hf := q_lt ev5 hf
          refine lv_iinc (v := v5) (lv' := [(1, .int v5), (2, .int v2)]) hx hb dX8_greens_16 hl (k := 0) rfl (by rw [ev5]; rfl) (by decide) rfl (fun ls hl => ?_)
          cases hf
          exact hJ _ _ _ hR hS hz (lv_sub hl [0, 1] rfl)
  refine hL F _ _ _ ho (fun z0 h9 => ?_) _ _ _ hR hS hz (lv_sub hl [1, 0] rfl)
  cases h9
  intro H locs ls hR hS hz hl
  refine lv_iload_n hx hb dX8_greens_27 rfl (lv_at hl 0 rfl) ?_
  subst hQ
  exact q_iret hx hb hr hlocks hR hS hz (Option.some.inj hf) rfl dX8_greens_28
/-! X0_anyGreen -/
def fX0_anyGreen (F : Nat) (X : qH) (a0 : Nat) (a1 : Int32) (a2 : Int32) : Option (Int32) :=
qIs 0 X a0 <|
(qgR X 0 a0 9).bind fun v1 =>
(qaI X 0 v1 a1).bind fun v2 =>
(fX8_greens F X v2).bind fun v3 =>
(qgR X 0 a0 9).bind fun v4 =>
(qaI X 0 v4 a2).bind fun v5 =>
(fX8_greens F X v5).bind fun v6 =>
(if (v3 + v6) ≤ (0 : Int32) then (some (0 : Int32))
else (some (1 : Int32)) : Option Int32).bind fun v7 =>
(qz v7).bind fun z =>
some z
abbrev rmX0_anyGreen : Room := { frames := 1, cells := 0, slots := 0, locals := 22 }
theorem fX0_anyGreen_is {F : Nat} {X : qH} {a0 : Nat} {a1 : Int32} {a2 : Int32} {r9 : Int32} (h : fX0_anyGreen F X a0 a1 a2 = some r9) : ∃ fs, X a0 = some (.inr (0, fs)) := (qIs_spec h).1
theorem hdX0_anyGreen : yX0_anyGreen.cls = RX0 ∧ yX0_anyGreen.cls ≠ "java/lang/invoke/MethodHandle" ∧ yX0_anyGreen.cls ≠ "java/lang/invoke/VarHandle" ∧ (parseMethodDescriptor yX0_anyGreen.desc).map (fun d => d.parameters.length) = some 2 := by decide +kernel
set_option maxHeartbeats 4000000 in
set_option maxRecDepth 100000 in
theorem mX0_anyGreen (l : Launch) (D : va_G) (kz : Nat → Nat) (b0 F : Nat) (X : qH) (a0 : Nat) (a1 : Int32) (a2 : Int32) (r : Int32) (hf : fX0_anyGreen F X a0 a1 a2 = some r) : Met l yX0_anyGreen (qws yX0_anyGreen cX0_anyGreen 3 (some .boolean)) rmX0_anyGreen (va_Pc [.ref a0, .int a1, .int a2] (qU D kz b0 X)) (va_Qi (fun (r' : Int32) (u : qH) => r' = r ∧ u = X) (fun u t => qO D kz b0 u t) (qA b0)) 0 0 (qA b0) := by
  refine q_start (by decide) (Nat.le_of_ble_eq_true rfl) ?_
  intro p e s m args below meth c hx hb hr hlocks hnm hml hown hT hR hK hz ls hl
  have hown : s.vm.findClass RX0 = some m.cls := hown
  have hl : lv_has ls 3 [(0, .ref a0), (1, .int a1), (2, .int a2)] := hl
  have hS : va_S (qA b0) s.heap s.heap [] := va_S.rf
  obtain ⟨Q, hQ⟩ : ∃ Q, Q = MQ below (va_Qi (fun (r' : Int32) (u : qH) => r' = r ∧ u = X) (fun u t => qO D kz b0 u t) (qA b0)) args s 0 0 (qA b0) := ⟨_, rfl⟩
  rw [← hQ]
  unfold fX0_anyGreen at hf
  obtain ⟨hthis, hf⟩ := qIs_spec hf
  refine lv_aload_n hx hb dX0_anyGreen_0 rfl (lv_at hl 0 rfl) ?_
  refine q_gR hx hb hT hown hK hR iqX0 vqX0 9 (by decide) (hT _ wfl_X0_21) hf dX0_anyGreen_1 (fun v1 hf => ?_)
  refine lv_iload_n hx hb dX0_anyGreen_4 rfl (lv_at hl 1 rfl) ?_
  refine q_iald hx hb hK hR hf dX0_anyGreen_5 (fun v2 hf => ?_)
  obtain ⟨v3, hc, hf⟩ := q_b hf
  refine q_calli (va_runS (As := [.int v2]) (rest := []) ⟨hx, hb, hml, hown, hT⟩ (mX8_greens l D kz b0 F X v2 v3 hc) (va_cwS 1 hT (q_gS wco_X8_greens wml_X0_56 wst_X8_greens win_X8) rfl rfl rfl hdX8_greens ⟨Nat.le_of_ble_eq_true rfl, Nat.le_of_ble_eq_true rfl⟩) (q_preS hR hK hz) rfl rfl hl.1 rfl (lv_room (Nat.le_of_ble_eq_true rfl)) dX0_anyGreen_6 ⟨Nat.le_of_ble_eq_true rfl, Nat.le_of_ble_eq_true rfl⟩) hS (fun H locs hR hS hz => ?_)
  refine lv_aload_n hx hb dX0_anyGreen_9 rfl (lv_at hl 0 rfl) ?_
  refine q_gR hx hb hT hown hK hR iqX0 vqX0 9 (by decide) (hT _ wfl_X0_21) hf dX0_anyGreen_10 (fun v4 hf => ?_)
  refine lv_iload_n hx hb dX0_anyGreen_13 rfl (lv_at hl 2 rfl) ?_
  refine q_iald hx hb hK hR hf dX0_anyGreen_14 (fun v5 hf => ?_)
  obtain ⟨v6, hc, hf⟩ := q_b hf
  refine q_calli (va_runS (As := [.int v5]) (rest := [.int v3]) ⟨hx, hb, hml, hown, hT⟩ (mX8_greens l D kz b0 F X v5 v6 hc) (va_cwS 1 hT (q_gS wco_X8_greens wml_X0_56 wst_X8_greens win_X8) rfl rfl rfl hdX8_greens ⟨Nat.le_of_ble_eq_true rfl, Nat.le_of_ble_eq_true rfl⟩) (q_preS hR hK hz) rfl rfl hl.1 rfl (lv_room (Nat.le_of_ble_eq_true rfl)) dX0_anyGreen_15 ⟨Nat.le_of_ble_eq_true rfl, Nat.le_of_ble_eq_true rfl⟩) hS (fun H locs hR hS hz => ?_)
  refine lv_iadd hx hb dX0_anyGreen_18 ?_
  obtain ⟨v7, hp, hf⟩ := q_b hf
  have hJ : ∀ (H : Heap) (locs : List Loc) (ls : Array Slot), qR D kz b0 X H → va_S (qA b0) s.heap H locs → b0 ≤ H.size → lv_has ls 3 [] → W p l e rmX0_anyGreen s m args below meth c H locs 0 0 Q (F0 m 27 ls [.int v7]) := by
    intro H locs ls hR hS hz hl
    subst hQ
    obtain ⟨z9, hz9, hf⟩ := q_b hf
    obtain ⟨rfl, h01⟩ := qz_spec hz9
    exact q_zret hx hb hr hlocks hR hS hz (Option.some.inj hf) h01 rfl dX0_anyGreen_27
  have hf := hp
  refine lv_if_le (tgt := 26) hx hb dX0_anyGreen_19 (by decide) (fun hc => ?_) (fun hc => ?_)
  · have hf := q_t hf hc
    refine lv_iconst (v := (0 : Int32)) hx hb dX0_anyGreen_26 (by decide) ?_
    cases hf
    exact hJ _ _ _ hR hS hz (lv_sub hl [] rfl)
  · have hf := q_f hf hc
    refine lv_iconst (v := (1 : Int32)) hx hb dX0_anyGreen_22 (by decide) ?_
    refine lv_goto (tgt := 27) hx hb dX0_anyGreen_23 (by decide) ?_
    cases hf
    exact hJ _ _ _ hR hS hz (lv_sub hl [] rfl)
/-! X0_readAs -/
def fX0_readAs_L16_B (F : Nat) (X : qH) (a0 : Nat) (a1 : Int32) (self0 : Int32 → Int32 → Option (Int32)) (v3 : Int32) (v4 : Int32) : Option (Int32) :=
(qgI X 0 a0 5).bind fun v5 =>
if v5 ≤ v4 then (some v3)
else ((qgR X 0 a0 6).bind fun v6 =>
(qaI X 0 v6 v4).bind fun v7 =>
(qgR X 0 a0 6).bind fun v8 =>
(qaI X 0 v8 a1).bind fun v9 =>
(if v7 ≤ v9 then (some v3)
else (if v3 = a1 then (some v4)
else ((qgR X 0 a0 6).bind fun v12 =>
(qaI X 0 v12 v4).bind fun v13 =>
(qgR X 0 a0 6).bind fun v14 =>
(qaI X 0 v14 v3).bind fun v15 =>
if v15 ≤ v13 then (some v3)
else (some v4))) : Option Int32).bind fun v10 =>
qlt (v4 + (1 : Int32)) fun v11 =>
self0 v10 v11)
def fX0_readAs_L16 (F : Nat) (X : qH) (a0 : Nat) (a1 : Int32) : Nat → Int32 → Int32 → Option (Int32)
  | 0, _, _ => none
  | n + 1, v3, v4 => fX0_readAs_L16_B F X a0 a1 (fX0_readAs_L16 F X a0 a1 n) v3 v4
def fX0_readAs (F : Nat) (X : qH) (a0 : Nat) (a1 : Int32) : Option (Int32) :=
qIs 0 X a0 <|
(qgR X 0 a0 7).bind fun v1 =>
(qaI X 0 v1 a1).bind fun v2 =>
if v2 ≤ (2 : Int32) then ((fX0_readAs_L16 F X a0 a1 F a1 (0 : Int32)).bind fun v16 =>
some v16)
else (some a1)
abbrev rmX0_readAs : Room := { frames := 0, cells := 0, slots := 0, locals := 0 }
theorem fX0_readAs_is {F : Nat} {X : qH} {a0 : Nat} {a1 : Int32} {r9 : Int32} (h : fX0_readAs F X a0 a1 = some r9) : ∃ fs, X a0 = some (.inr (0, fs)) := (qIs_spec h).1
theorem hdX0_readAs : yX0_readAs.cls = RX0 ∧ yX0_readAs.cls ≠ "java/lang/invoke/MethodHandle" ∧ yX0_readAs.cls ≠ "java/lang/invoke/VarHandle" ∧ (parseMethodDescriptor yX0_readAs.desc).map (fun d => d.parameters.length) = some 1 := by decide +kernel
set_option maxHeartbeats 4000000 in
set_option maxRecDepth 100000 in
theorem mX0_readAs (l : Launch) (D : va_G) (kz : Nat → Nat) (b0 F : Nat) (X : qH) (a0 : Nat) (a1 : Int32) (r : Int32) (hf : fX0_readAs F X a0 a1 = some r) : Met l yX0_readAs (qws yX0_readAs cX0_readAs 4 (some .int)) rmX0_readAs (va_Pc [.ref a0, .int a1] (qU D kz b0 X)) (va_Qi (fun (r' : Int32) (u : qH) => r' = r ∧ u = X) (fun u t => qO D kz b0 u t) (qA b0)) 0 0 (qA b0) := by
  refine q_start (by decide) (Nat.le_of_ble_eq_true rfl) ?_
  intro p e s m args below meth c hx hb hr hlocks hnm hml hown hT hR hK hz ls hl
  have hown : s.vm.findClass RX0 = some m.cls := hown
  have hl : lv_has ls 4 [(0, .ref a0), (1, .int a1)] := hl
  have hS : va_S (qA b0) s.heap s.heap [] := va_S.rf
  obtain ⟨Q, hQ⟩ : ∃ Q, Q = MQ below (va_Qi (fun (r' : Int32) (u : qH) => r' = r ∧ u = X) (fun u t => qO D kz b0 u t) (qA b0)) args s 0 0 (qA b0) := ⟨_, rfl⟩
  rw [← hQ]
  unfold fX0_readAs at hf
  obtain ⟨hthis, hf⟩ := qIs_spec hf
  refine lv_aload_n hx hb dX0_readAs_0 rfl (lv_at hl 0 rfl) ?_
  refine q_gR hx hb hT hown hK hR iqX0 vqX0 7 (by decide) (hT _ wfl_X0_15) hf dX0_readAs_1 (fun v1 hf => ?_)
  refine lv_iload_n hx hb dX0_readAs_4 rfl (lv_at hl 1 rfl) ?_
  refine q_iald hx hb hK hR hf dX0_readAs_5 (fun v2 hf => ?_)
  refine lv_iconst (v := (2 : Int32)) hx hb dX0_readAs_6 (by decide) ?_
  refine lv_icmp_le (tgt := 12) hx hb dX0_readAs_7 (by decide) (fun hc => ?_) (fun hc => ?_)
  · have hf := q_t hf hc
    refine lv_iload_n hx hb dX0_readAs_12 rfl (lv_at hl 1 rfl) ?_
    refine lv_istore_n (lv' := [(2, .int a1), (0, .ref a0), (1, .int a1)]) hx hb dX0_readAs_13 rfl hl (by decide) rfl (fun ls hl => ?_)
    refine lv_iconst (v := (0 : Int32)) hx hb dX0_readAs_14 (by decide) ?_
    refine lv_istore_n (lv' := [(3, .int (0 : Int32)), (2, .int a1), (0, .ref a0), (1, .int a1)]) hx hb dX0_readAs_15 rfl hl (by decide) rfl (fun ls hl => ?_)
    obtain ⟨v16, ho, hf⟩ := q_b hf
    have hL : ∀ (n : Nat) (v3 : Int32) (v4 : Int32) (out : Int32), fX0_readAs_L16 F X a0 a1 n v3 v4 = some out → (∀ (v16 : Int32), out = v16 → ∀ (H : Heap) (locs : List Loc) (ls : Array Slot), qR D kz b0 X H → va_S (qA b0) s.heap H locs → b0 ≤ H.size → lv_has ls 4 [(2, .int v16)] → W p l e rmX0_readAs s m args below meth c H locs 0 0 Q (F0 m 67 ls [])) → ∀ (H : Heap) (locs : List Loc) (ls : Array Slot), qR D kz b0 X H → va_S (qA b0) s.heap H locs → b0 ≤ H.size → lv_has ls 4 [(0, .ref a0), (1, .int a1), (2, .int v3), (3, .int v4)] → W p l e rmX0_readAs s m args below meth c H locs 0 0 Q (F0 m 16 ls []) := by
      intro n9
      induction n9 with
      | zero =>
        intro v3 v4 out hf
        exact absurd (show none = some out from hf) (by simp)
      | succ n9 ih0 =>
        intro v3 v4 out hf hex H locs ls hR hS hz hl
        have hf : fX0_readAs_L16_B F X a0 a1 (fX0_readAs_L16 F X a0 a1 n9) v3 v4 = some out := hf
        unfold fX0_readAs_L16_B at hf
        refine lv_iload_n hx hb dX0_readAs_16 rfl (lv_at hl 3 rfl) ?_
        refine lv_aload_n hx hb dX0_readAs_17 rfl (lv_at hl 0 rfl) ?_
        refine q_gI hx hb hT hown hK hR iqX0 vqX0 5 (by decide) (hT _ wfl_X0_43) hf dX0_readAs_18 (fun v5 hf => ?_)
        refine lv_icmp_ge (tgt := 67) hx hb dX0_readAs_21 (by decide) (fun hc => ?_) (fun hc => ?_)
        · have hf := q_t hf hc
          exact hex _ (Option.some.inj hf).symm _ _ _ hR hS hz (lv_sub hl [2] rfl)
        · have hf := q_f hf hc
          refine lv_aload_n hx hb dX0_readAs_24 rfl (lv_at hl 0 rfl) ?_
          refine q_gR hx hb hT hown hK hR iqX0 vqX0 6 (by decide) (hT _ wfl_X0_9) hf dX0_readAs_25 (fun v6 hf => ?_)
          refine lv_iload_n hx hb dX0_readAs_28 rfl (lv_at hl 3 rfl) ?_
          refine q_iald hx hb hK hR hf dX0_readAs_29 (fun v7 hf => ?_)
          refine lv_aload_n hx hb dX0_readAs_30 rfl (lv_at hl 0 rfl) ?_
          refine q_gR hx hb hT hown hK hR iqX0 vqX0 6 (by decide) (hT _ wfl_X0_9) hf dX0_readAs_31 (fun v8 hf => ?_)
          refine lv_iload_n hx hb dX0_readAs_34 rfl (lv_at hl 1 rfl) ?_
          refine q_iald hx hb hK hR hf dX0_readAs_35 (fun v9 hf => ?_)
          obtain ⟨v10, hp, hf⟩ := q_b hf
          have hJ : ∀ (H : Heap) (locs : List Loc) (ls : Array Slot), qR D kz b0 X H → va_S (qA b0) s.heap H locs → b0 ≤ H.size → lv_has ls 4 [(0, .ref a0), (1, .int a1), (2, .int v10), (3, .int v4)] → W p l e rmX0_readAs s m args below meth c H locs 0 0 Q (F0 m 61 ls []) := by
            intro H locs ls hR hS hz hl
            obtain ⟨v11, ev11⟩ : ∃ y : Int32, y = (v4 + (1 : Int32)) := ⟨_, rfl⟩
            have hf := q_lt ev11 hf
            refine lv_iinc (v := v11) (lv' := [(3, .int v11), (0, .ref a0), (1, .int a1), (2, .int v10)]) hx hb dX0_readAs_61 hl (k := 3) rfl (by rw [ev11]; rfl) (by decide) rfl (fun ls hl => ?_)
            refine lv_goto (tgt := 16) hx hb dX0_readAs_64 (by decide) ?_
            exact ih0 _ _ out hf hex _ _ _ hR hS hz (lv_sub hl [1, 2, 3, 0] rfl)
          have hf := hp
          refine lv_icmp_le (tgt := 61) hx hb dX0_readAs_36 (by decide) (fun hc => ?_) (fun hc => ?_)
          · have hf := q_t hf hc
            cases hf
            exact hJ _ _ _ hR hS hz (lv_sub hl [0, 1, 2, 3] rfl)
          · have hf := q_f hf hc
            refine lv_iload_n hx hb dX0_readAs_39 rfl (lv_at hl 2 rfl) ?_
            refine lv_iload_n hx hb dX0_readAs_40 rfl (lv_at hl 1 rfl) ?_
            refine lv_icmp_eq (tgt := 59) hx hb dX0_readAs_41 (by decide) (fun hc => ?_) (fun hc => ?_)
            · have hf := q_t hf hc
              refine lv_iload_n hx hb dX0_readAs_59 rfl (lv_at hl 3 rfl) ?_
              refine lv_istore_n (lv' := [(2, .int v4), (0, .ref a0), (1, .int a1), (3, .int v4)]) hx hb dX0_readAs_60 rfl hl (by decide) rfl (fun ls hl => ?_)
              cases hf
              exact hJ _ _ _ hR hS hz (lv_sub hl [1, 2, 0, 3] rfl)
            · have hf := q_f hf hc
              refine lv_aload_n hx hb dX0_readAs_44 rfl (lv_at hl 0 rfl) ?_
              refine q_gR hx hb hT hown hK hR iqX0 vqX0 6 (by decide) (hT _ wfl_X0_9) hf dX0_readAs_45 (fun v12 hf => ?_)
              refine lv_iload_n hx hb dX0_readAs_48 rfl (lv_at hl 3 rfl) ?_
              refine q_iald hx hb hK hR hf dX0_readAs_49 (fun v13 hf => ?_)
              refine lv_aload_n hx hb dX0_readAs_50 rfl (lv_at hl 0 rfl) ?_
              refine q_gR hx hb hT hown hK hR iqX0 vqX0 6 (by decide) (hT _ wfl_X0_9) hf dX0_readAs_51 (fun v14 hf => ?_)
              refine lv_iload_n hx hb dX0_readAs_54 rfl (lv_at hl 2 rfl) ?_
              refine q_iald hx hb hK hR hf dX0_readAs_55 (fun v15 hf => ?_)
              refine lv_icmp_ge (tgt := 61) hx hb dX0_readAs_56 (by decide) (fun hc => ?_) (fun hc => ?_)
              · have hf := q_t hf hc
                cases hf
                exact hJ _ _ _ hR hS hz (lv_sub hl [0, 1, 2, 3] rfl)
              · have hf := q_f hf hc
                refine lv_iload_n hx hb dX0_readAs_59 rfl (lv_at hl 3 rfl) ?_
                refine lv_istore_n (lv' := [(2, .int v4), (0, .ref a0), (1, .int a1), (3, .int v4)]) hx hb dX0_readAs_60 rfl hl (by decide) rfl (fun ls hl => ?_)
                cases hf
                exact hJ _ _ _ hR hS hz (lv_sub hl [1, 2, 0, 3] rfl)
    refine hL F _ _ _ ho (fun z0 h9 => ?_) _ _ _ hR hS hz (lv_sub hl [2, 3, 1, 0] rfl)
    cases h9
    intro H locs ls hR hS hz hl
    refine lv_iload_n hx hb dX0_readAs_67 rfl (lv_at hl 0 rfl) ?_
    subst hQ
    exact q_iret hx hb hr hlocks hR hS hz (Option.some.inj hf) rfl dX0_readAs_68
  · have hf := q_f hf hc
    refine lv_iload_n hx hb dX0_readAs_10 rfl (lv_at hl 1 rfl) ?_
    subst hQ
    exact q_iret hx hb hr hlocks hR hS hz (Option.some.inj hf) rfl dX0_readAs_11
/-! X1_add -/
def fX1_add (F : Nat) (X : qH) (a0 : Nat) (a1 : Int32) (a2 : Int32) (a3 : Int32) : Option (qH) :=
qIs 1 X a0 <|
(qgI X 1 a0 0).bind fun v1 =>
if v1 < (15 : Int32) then ((qgR X 1 a0 1).bind fun v2 =>
(qgI X 1 a0 0).bind fun v3 =>
(qaS X 0 v2 v3 a1).bind fun X4 =>
(qgR X4 1 a0 2).bind fun v5 =>
(qgI X4 1 a0 0).bind fun v6 =>
(qaS X4 0 v5 v6 a2).bind fun X7 =>
(qgR X7 1 a0 3).bind fun v8 =>
(qgI X7 1 a0 0).bind fun v9 =>
(qaZ X7 v8 v9 a3).bind fun X10 =>
(qgI X10 1 a0 0).bind fun v11 =>
qlt (v11 + (1 : Int32)) fun v12 =>
(qpI X10 1 a0 0 v12).bind fun X13 =>
some X13)
else (some X)
abbrev rmX1_add : Room := { frames := 0, cells := 0, slots := 0, locals := 0 }
theorem fX1_add_is {F : Nat} {X : qH} {a0 : Nat} {a1 : Int32} {a2 : Int32} {a3 : Int32} {r9 : qH} (h : fX1_add F X a0 a1 a2 a3 = some r9) : ∃ fs, X a0 = some (.inr (1, fs)) := (qIs_spec h).1
theorem hdX1_add : yX1_add.cls = RX1 ∧ yX1_add.cls ≠ "java/lang/invoke/MethodHandle" ∧ yX1_add.cls ≠ "java/lang/invoke/VarHandle" ∧ (parseMethodDescriptor yX1_add.desc).map (fun d => d.parameters.length) = some 3 := by decide +kernel
set_option maxHeartbeats 4000000 in
set_option maxRecDepth 100000 in
theorem mX1_add (l : Launch) (D : va_G) (kz : Nat → Nat) (b0 F : Nat) (X : qH) (a0 : Nat) (a1 : Int32) (a2 : Int32) (a3 : Int32)  (X9 : qH) (hf : fX1_add F X a0 a1 a2 a3 = some X9) : Met l yX1_add (qws yX1_add cX1_add 4 none) rmX1_add (va_Pc [.ref a0, .int a1, .int a2, .int a3] (qU D kz b0 X)) (va_Qv (fun (u : qH) => u = X9) (fun u t => qO D kz b0 u t) (qA b0)) 0 0 (qA b0) := by
  refine q_start (by decide) (Nat.le_of_ble_eq_true rfl) ?_
  intro p e s m args below meth c hx hb hr hlocks hnm hml hown hT hR hK hz ls hl
  have hown : s.vm.findClass RX1 = some m.cls := hown
  have hl : lv_has ls 4 [(0, .ref a0), (1, .int a1), (2, .int a2), (3, .int a3)] := hl
  have hS : va_S (qA b0) s.heap s.heap [] := va_S.rf
  obtain ⟨Q, hQ⟩ : ∃ Q, Q = MQ below (va_Qv (fun (u : qH) => u = X9) (fun u t => qO D kz b0 u t) (qA b0)) args s 0 0 (qA b0) := ⟨_, rfl⟩
  rw [← hQ]
  unfold fX1_add at hf
  obtain ⟨hthis, hf⟩ := qIs_spec hf
  refine lv_aload_n hx hb dX1_add_0 rfl (lv_at hl 0 rfl) ?_
  refine q_gI hx hb hT hown hK hR iqX1 vqX1 0 (by decide) (hT _ wfl_X1_22) hf dX1_add_1 (fun v1 hf => ?_)
  refine lv_bipush (v := (15 : Int32)) hx hb dX1_add_4 (by decide) ?_
  refine lv_icmp_lt (tgt := 10) hx hb dX1_add_6 (by decide) (fun hc => ?_) (fun hc => ?_)
  · have hf := q_t hf hc
    refine lv_aload_n hx hb dX1_add_10 rfl (lv_at hl 0 rfl) ?_
    refine q_gR hx hb hT hown hK hR iqX1 vqX1 1 (by decide) (hT _ wfl_X1_9) hf dX1_add_11 (fun v2 hf => ?_)
    refine lv_aload_n hx hb dX1_add_14 rfl (lv_at hl 0 rfl) ?_
    refine q_gI hx hb hT hown hK hR iqX1 vqX1 0 (by decide) (hT _ wfl_X1_22) hf dX1_add_15 (fun v3 hf => ?_)
    refine lv_iload_n hx hb dX1_add_18 rfl (lv_at hl 1 rfl) ?_
    refine q_iast hx hb hK hR hS hz hf dX1_add_19 (fun X4 hf H locs hR hS hz => ?_)
    refine lv_aload_n hx hb dX1_add_20 rfl (lv_at hl 0 rfl) ?_
    refine q_gR hx hb hT hown hK hR iqX1 vqX1 2 (by decide) (hT _ wfl_X1_15) hf dX1_add_21 (fun v5 hf => ?_)
    refine lv_aload_n hx hb dX1_add_24 rfl (lv_at hl 0 rfl) ?_
    refine q_gI hx hb hT hown hK hR iqX1 vqX1 0 (by decide) (hT _ wfl_X1_22) hf dX1_add_25 (fun v6 hf => ?_)
    refine lv_iload_n hx hb dX1_add_28 rfl (lv_at hl 2 rfl) ?_
    refine q_iast hx hb hK hR hS hz hf dX1_add_29 (fun X7 hf H locs hR hS hz => ?_)
    refine lv_aload_n hx hb dX1_add_30 rfl (lv_at hl 0 rfl) ?_
    refine q_gR hx hb hT hown hK hR iqX1 vqX1 3 (by decide) (hT _ wfl_X1_18) hf dX1_add_31 (fun v8 hf => ?_)
    refine lv_aload_n hx hb dX1_add_34 rfl (lv_at hl 0 rfl) ?_
    refine q_gI hx hb hT hown hK hR iqX1 vqX1 0 (by decide) (hT _ wfl_X1_22) hf dX1_add_35 (fun v9 hf => ?_)
    refine lv_iload_n hx hb dX1_add_38 rfl (lv_at hl 3 rfl) ?_
    refine q_zast hx hb hK hR hS hz hf dX1_add_39 (fun X10 hf H locs hR hS hz => ?_)
    refine lv_aload_n hx hb dX1_add_40 rfl (lv_at hl 0 rfl) ?_
    refine lv_dup hx hb dX1_add_41 rfl ?_
    refine q_gI hx hb hT hown hK hR iqX1 vqX1 0 (by decide) (hT _ wfl_X1_22) hf dX1_add_42 (fun v11 hf => ?_)
    refine lv_iconst (v := (1 : Int32)) hx hb dX1_add_45 (by decide) ?_
    refine lv_iadd hx hb dX1_add_46 ?_
    refine lv_topi (fun v12 ev12 => ?_)
    have hf := q_lt ev12 hf
    refine q_pI hx hb hT hown hK hR hS hz iqX1 vqX1 tyX1_ok nmX1 0 (by decide) (hT _ wfl_X1_22) rfl rfl hf dX1_add_47 (fun X13 hf H locs hR hS hz => ?_)
    subst hQ
    exact q_vret hx hb hr hlocks hR hS hz (Option.some.inj hf) dX1_add_50
  · have hf := q_f hf hc
    subst hQ
    exact q_vret hx hb hr hlocks hR hS hz (Option.some.inj hf) dX1_add_9
/-! X3_pairBit -/
def fX3_pairBit (F : Nat) (X : qH) (a0 : Int32) (a1 : Int32) : Option (Int32) :=
qlt (if a0 < a1 then a1 else a0) fun v1 =>
qlt (if a1 < a0 then a1 else a0) fun v2 =>
some ((1 : Int32) <<< ((((v1 * (v1 - (1 : Int32))) / (2 : Int32)) + v2) &&& 31))
abbrev rmX3_pairBit : Room := { frames := 1, cells := 0, slots := 0, locals := 21 }
theorem hdX3_pairBit : yX3_pairBit.cls ≠ "java/lang/invoke/MethodHandle" ∧ yX3_pairBit.cls ≠ "java/lang/invoke/VarHandle" ∧ (parseMethodDescriptor yX3_pairBit.desc).map (fun d => d.parameters.length) = some 2 := by decide +kernel
set_option maxHeartbeats 4000000 in
set_option maxRecDepth 100000 in
theorem mX3_pairBit (l : Launch) (D : va_G) (kz : Nat → Nat) (b0 F : Nat) (X : qH) (a0 : Int32) (a1 : Int32) (r : Int32) (hf : fX3_pairBit F X a0 a1 = some r) : Met l yX3_pairBit (qws yX3_pairBit cX3_pairBit 3 (some .int)) rmX3_pairBit (va_Pc [.int a0, .int a1] (qU D kz b0 X)) (va_Qi (fun (r' : Int32) (u : qH) => r' = r ∧ u = X) (fun u t => qO D kz b0 u t) (qA b0)) 0 0 (qA b0) := by
  refine q_start (by decide) (Nat.le_of_ble_eq_true rfl) ?_
  intro p e s m args below meth c hx hb hr hlocks hnm hml hown hT hR hK hz ls hl
  have hown : s.vm.findClass RX3 = some m.cls := hown
  have hl : lv_has ls 3 [(0, .int a0), (1, .int a1)] := hl
  have hS : va_S (qA b0) s.heap s.heap [] := va_S.rf
  obtain ⟨Q, hQ⟩ : ∃ Q, Q = MQ below (va_Qi (fun (r' : Int32) (u : qH) => r' = r ∧ u = X) (fun u t => qO D kz b0 u t) (qA b0)) args s 0 0 (qA b0) := ⟨_, rfl⟩
  rw [← hQ]
  unfold fX3_pairBit at hf
  refine lv_iload_n hx hb dX3_pairBit_0 rfl (lv_at hl 0 rfl) ?_
  refine lv_iload_n hx hb dX3_pairBit_1 rfl (lv_at hl 1 rfl) ?_
  refine va_mmax hx hb (hml.trans hl.1.symm) hown (hT _ wml_X3_67) (hT _ wst_Mmax) (hT _ win_Math) (hT _ wco_Mmax) (Nat.le_of_ble_eq_true rfl) (Nat.le_of_ble_eq_true rfl) (Nat.le_of_ble_eq_true rfl) (Nat.le_of_ble_eq_true rfl) dX3_pairBit_2 ?_
  refine lv_topi (fun v1 ev1 => ?_)
  have hf := q_lt ev1 hf
  refine lv_istore_n (lv' := [(2, .int v1), (0, .int a0), (1, .int a1)]) hx hb dX3_pairBit_5 rfl hl (by decide) rfl (fun ls hl => ?_)
  refine lv_iconst (v := (1 : Int32)) hx hb dX3_pairBit_6 (by decide) ?_
  refine lv_iload_n hx hb dX3_pairBit_7 rfl (lv_at hl 0 rfl) ?_
  refine lv_iload_n hx hb dX3_pairBit_8 rfl (lv_at hl 0 rfl) ?_
  refine lv_iconst (v := (1 : Int32)) hx hb dX3_pairBit_9 (by decide) ?_
  refine lv_isub hx hb dX3_pairBit_10 ?_
  refine lv_imul hx hb dX3_pairBit_11 ?_
  refine lv_iconst (v := (2 : Int32)) hx hb dX3_pairBit_12 (by decide) ?_
  refine lv_idiv hx hb dX3_pairBit_13 (by decide) ?_
  refine lv_iload_n hx hb dX3_pairBit_14 rfl (lv_at hl 1 rfl) ?_
  refine lv_iload_n hx hb dX3_pairBit_15 rfl (lv_at hl 2 rfl) ?_
  refine va_mmin hx hb (hml.trans hl.1.symm) hown (hT _ wml_X3_61) (hT _ wst_Mmin) (hT _ win_Math) (hT _ wco_Mmin) (Nat.le_of_ble_eq_true rfl) (Nat.le_of_ble_eq_true rfl) (Nat.le_of_ble_eq_true rfl) (Nat.le_of_ble_eq_true rfl) dX3_pairBit_16 ?_
  refine lv_topi (fun v2 ev2 => ?_)
  have hf := q_lt ev2 hf
  refine lv_iadd hx hb dX3_pairBit_19 ?_
  refine lv_ishl hx hb dX3_pairBit_20 ?_
  subst hQ
  exact q_iret hx hb hr hlocks hR hS hz (Option.some.inj hf) rfl dX3_pairBit_21
/-! X3_holdsFor -/
def fX3_holdsFor (F : Nat) (X : qH) (a0 : Nat) (a1 : Int32) (a2 : Int32) : Option (Int32) :=
qIs 3 X a0 <|
(qgI X 3 a0 3).bind fun v1 =>
(fX3_pairBit F X a1 a2).bind fun v2 =>
(if (v1 &&& v2) = (0 : Int32) then (some (0 : Int32))
else (some (1 : Int32)) : Option Int32).bind fun v3 =>
(qz v3).bind fun z =>
some z
abbrev rmX3_holdsFor : Room := { frames := 2, cells := 0, slots := 0, locals := 43 }
theorem fX3_holdsFor_is {F : Nat} {X : qH} {a0 : Nat} {a1 : Int32} {a2 : Int32} {r9 : Int32} (h : fX3_holdsFor F X a0 a1 a2 = some r9) : ∃ fs, X a0 = some (.inr (3, fs)) := (qIs_spec h).1
theorem hdX3_holdsFor : yX3_holdsFor.cls = RX3 ∧ yX3_holdsFor.cls ≠ "java/lang/invoke/MethodHandle" ∧ yX3_holdsFor.cls ≠ "java/lang/invoke/VarHandle" ∧ (parseMethodDescriptor yX3_holdsFor.desc).map (fun d => d.parameters.length) = some 2 := by decide +kernel
set_option maxHeartbeats 4000000 in
set_option maxRecDepth 100000 in
theorem mX3_holdsFor (l : Launch) (D : va_G) (kz : Nat → Nat) (b0 F : Nat) (X : qH) (a0 : Nat) (a1 : Int32) (a2 : Int32) (r : Int32) (hf : fX3_holdsFor F X a0 a1 a2 = some r) : Met l yX3_holdsFor (qws yX3_holdsFor cX3_holdsFor 3 (some .boolean)) rmX3_holdsFor (va_Pc [.ref a0, .int a1, .int a2] (qU D kz b0 X)) (va_Qi (fun (r' : Int32) (u : qH) => r' = r ∧ u = X) (fun u t => qO D kz b0 u t) (qA b0)) 0 0 (qA b0) := by
  refine q_start (by decide) (Nat.le_of_ble_eq_true rfl) ?_
  intro p e s m args below meth c hx hb hr hlocks hnm hml hown hT hR hK hz ls hl
  have hown : s.vm.findClass RX3 = some m.cls := hown
  have hl : lv_has ls 3 [(0, .ref a0), (1, .int a1), (2, .int a2)] := hl
  have hS : va_S (qA b0) s.heap s.heap [] := va_S.rf
  obtain ⟨Q, hQ⟩ : ∃ Q, Q = MQ below (va_Qi (fun (r' : Int32) (u : qH) => r' = r ∧ u = X) (fun u t => qO D kz b0 u t) (qA b0)) args s 0 0 (qA b0) := ⟨_, rfl⟩
  rw [← hQ]
  unfold fX3_holdsFor at hf
  obtain ⟨hthis, hf⟩ := qIs_spec hf
  refine lv_aload_n hx hb dX3_holdsFor_0 rfl (lv_at hl 0 rfl) ?_
  refine q_gI hx hb hT hown hK hR iqX3 vqX3 3 (by decide) (hT _ wfl_X3_42) hf dX3_holdsFor_1 (fun v1 hf => ?_)
  refine lv_iload_n hx hb dX3_holdsFor_4 rfl (lv_at hl 1 rfl) ?_
  refine lv_iload_n hx hb dX3_holdsFor_5 rfl (lv_at hl 2 rfl) ?_
  obtain ⟨v2, hc, hf⟩ := q_b hf
  refine q_calli (va_runS (As := [.int a1, .int a2]) (rest := [.int v1]) ⟨hx, hb, hml, hown, hT⟩ (mX3_pairBit l D kz b0 F X a1 a2 v2 hc) (va_cwS 2 hT (q_gS wco_X3_pairBit wml_X3_109 wst_X3_pairBit win_X3) rfl rfl rfl hdX3_pairBit ⟨Nat.le_of_ble_eq_true rfl, Nat.le_of_ble_eq_true rfl⟩) (q_preS hR hK hz) rfl rfl hl.1 rfl (lv_room (Nat.le_of_ble_eq_true rfl)) dX3_holdsFor_6 ⟨Nat.le_of_ble_eq_true rfl, Nat.le_of_ble_eq_true rfl⟩) hS (fun H locs hR hS hz => ?_)
  refine lv_iand hx hb dX3_holdsFor_9 ?_
  obtain ⟨v3, hp, hf⟩ := q_b hf
  have hJ : ∀ (H : Heap) (locs : List Loc) (ls : Array Slot), qR D kz b0 X H → va_S (qA b0) s.heap H locs → b0 ≤ H.size → lv_has ls 3 [] → W p l e rmX3_holdsFor s m args below meth c H locs 0 0 Q (F0 m 18 ls [.int v3]) := by
    intro H locs ls hR hS hz hl
    subst hQ
    obtain ⟨z9, hz9, hf⟩ := q_b hf
    obtain ⟨rfl, h01⟩ := qz_spec hz9
    exact q_zret hx hb hr hlocks hR hS hz (Option.some.inj hf) h01 rfl dX3_holdsFor_18
  have hf := hp
  refine lv_if_eq (tgt := 17) hx hb dX3_holdsFor_10 (by decide) (fun hc => ?_) (fun hc => ?_)
  · have hf := q_t hf hc
    refine lv_iconst (v := (0 : Int32)) hx hb dX3_holdsFor_17 (by decide) ?_
    cases hf
    exact hJ _ _ _ hR hS hz (lv_sub hl [] rfl)
  · have hf := q_f hf hc
    refine lv_iconst (v := (1 : Int32)) hx hb dX3_holdsFor_13 (by decide) ?_
    refine lv_goto (tgt := 18) hx hb dX3_holdsFor_14 (by decide) ?_
    cases hf
    exact hJ _ _ _ hR hS hz (lv_sub hl [] rfl)
/-! X1_firstWrong -/
def fX1_firstWrong_L2_B (F : Nat) (X : qH) (a0 : Nat) (a1 : Nat) (self0 : Int32 → Option ((Int32) ⊕ (Unit))) (v1 : Int32) : Option ((Int32) ⊕ (Unit)) :=
(qgI X 1 a0 0).bind fun v2 =>
if v2 ≤ v1 then (some (.inr ()))
else ((qgR X 1 a0 1).bind fun v3 =>
(qaI X 0 v3 v1).bind fun v4 =>
(qgR X 1 a0 2).bind fun v5 =>
(qaI X 0 v5 v1).bind fun v6 =>
(fX3_holdsFor F X a1 v4 v6).bind fun v7 =>
(qgR X 1 a0 3).bind fun v8 =>
(qaI X 1 v8 v1).bind fun v9 =>
if v7 = v9 then (qlt (v1 + (1 : Int32)) fun v10 =>
self0 v10)
else (some (.inl v1)))
def fX1_firstWrong_L2 (F : Nat) (X : qH) (a0 : Nat) (a1 : Nat) : Nat → Int32 → Option ((Int32) ⊕ (Unit))
  | 0, _ => none
  | n + 1, v1 => fX1_firstWrong_L2_B F X a0 a1 (fX1_firstWrong_L2 F X a0 a1 n) v1
def fX1_firstWrong (F : Nat) (X : qH) (a0 : Nat) (a1 : Nat) : Option (Int32) :=
qIs 1 X a0 <|
(fX1_firstWrong_L2 F X a0 a1 F (0 : Int32)).bind fun o11 => qsm0 o11 (fun z => some z) <|
some (-1 : Int32)
abbrev rmX1_firstWrong : Room := { frames := 3, cells := 0, slots := 0, locals := 65 }
theorem fX1_firstWrong_is {F : Nat} {X : qH} {a0 : Nat} {a1 : Nat} {r9 : Int32} (h : fX1_firstWrong F X a0 a1 = some r9) : ∃ fs, X a0 = some (.inr (1, fs)) := (qIs_spec h).1
theorem hdX1_firstWrong : yX1_firstWrong.cls = RX1 ∧ yX1_firstWrong.cls ≠ "java/lang/invoke/MethodHandle" ∧ yX1_firstWrong.cls ≠ "java/lang/invoke/VarHandle" ∧ (parseMethodDescriptor yX1_firstWrong.desc).map (fun d => d.parameters.length) = some 1 := by decide +kernel
set_option maxHeartbeats 4000000 in
set_option maxRecDepth 100000 in
theorem mX1_firstWrong (l : Launch) (D : va_G) (kz : Nat → Nat) (b0 F : Nat) (X : qH) (a0 : Nat) (a1 : Nat) (r : Int32) (hf : fX1_firstWrong F X a0 a1 = some r) : Met l yX1_firstWrong (qws yX1_firstWrong cX1_firstWrong 3 (some .int)) rmX1_firstWrong (va_Pc [.ref a0, .ref a1] (qU D kz b0 X)) (va_Qi (fun (r' : Int32) (u : qH) => r' = r ∧ u = X) (fun u t => qO D kz b0 u t) (qA b0)) 0 0 (qA b0) := by
  refine q_start (by decide) (Nat.le_of_ble_eq_true rfl) ?_
  intro p e s m args below meth c hx hb hr hlocks hnm hml hown hT hR hK hz ls hl
  have hown : s.vm.findClass RX1 = some m.cls := hown
  have hl : lv_has ls 3 [(0, .ref a0), (1, .ref a1)] := hl
  have hS : va_S (qA b0) s.heap s.heap [] := va_S.rf
  obtain ⟨Q, hQ⟩ : ∃ Q, Q = MQ below (va_Qi (fun (r' : Int32) (u : qH) => r' = r ∧ u = X) (fun u t => qO D kz b0 u t) (qA b0)) args s 0 0 (qA b0) := ⟨_, rfl⟩
  rw [← hQ]
  unfold fX1_firstWrong at hf
  obtain ⟨hthis, hf⟩ := qIs_spec hf
  refine lv_iconst (v := (0 : Int32)) hx hb dX1_firstWrong_0 (by decide) ?_
  refine lv_istore_n (lv' := [(2, .int (0 : Int32)), (0, .ref a0), (1, .ref a1)]) hx hb dX1_firstWrong_1 rfl hl (by decide) rfl (fun ls hl => ?_)
  obtain ⟨o11, ho, hf⟩ := q_b hf
  have hL : ∀ (n : Nat) (v1 : Int32) (out : (Int32) ⊕ (Unit)), fX1_firstWrong_L2 F X a0 a1 n v1 = some out → (∀ z, out = .inl z → z = r) → (out = .inr () → ∀ (H : Heap) (locs : List Loc) (ls : Array Slot), qR D kz b0 X H → va_S (qA b0) s.heap H locs → b0 ≤ H.size → lv_has ls 3 [] → W p l e rmX1_firstWrong s m args below meth c H locs 0 0 Q (F0 m 43 ls [])) → ∀ (H : Heap) (locs : List Loc) (ls : Array Slot), qR D kz b0 X H → va_S (qA b0) s.heap H locs → b0 ≤ H.size → lv_has ls 3 [(0, .ref a0), (1, .ref a1), (2, .int v1)] → W p l e rmX1_firstWrong s m args below meth c H locs 0 0 Q (F0 m 2 ls []) := by
    intro n9
    induction n9 with
    | zero =>
      intro v1 out hf
      exact absurd (show none = some out from hf) (by simp)
    | succ n9 ih0 =>
      intro v1 out hf hret hex H locs ls hR hS hz hl
      have hf : fX1_firstWrong_L2_B F X a0 a1 (fX1_firstWrong_L2 F X a0 a1 n9) v1 = some out := hf
      unfold fX1_firstWrong_L2_B at hf
      refine lv_iload_n hx hb dX1_firstWrong_2 rfl (lv_at hl 2 rfl) ?_
      refine lv_aload_n hx hb dX1_firstWrong_3 rfl (lv_at hl 0 rfl) ?_
      refine q_gI hx hb hT hown hK hR iqX1 vqX1 0 (by decide) (hT _ wfl_X1_22) hf dX1_firstWrong_4 (fun v2 hf => ?_)
      refine lv_icmp_ge (tgt := 43) hx hb dX1_firstWrong_7 (by decide) (fun hc => ?_) (fun hc => ?_)
      · have hf := q_t hf hc
        exact hex  (Option.some.inj hf).symm _ _ _ hR hS hz (lv_sub hl [] rfl)
      · have hf := q_f hf hc
        refine lv_aload_n hx hb dX1_firstWrong_10 rfl (lv_at hl 1 rfl) ?_
        refine lv_aload_n hx hb dX1_firstWrong_11 rfl (lv_at hl 0 rfl) ?_
        refine q_gR hx hb hT hown hK hR iqX1 vqX1 1 (by decide) (hT _ wfl_X1_9) hf dX1_firstWrong_12 (fun v3 hf => ?_)
        refine lv_iload_n hx hb dX1_firstWrong_15 rfl (lv_at hl 2 rfl) ?_
        refine q_iald hx hb hK hR hf dX1_firstWrong_16 (fun v4 hf => ?_)
        refine lv_aload_n hx hb dX1_firstWrong_17 rfl (lv_at hl 0 rfl) ?_
        refine q_gR hx hb hT hown hK hR iqX1 vqX1 2 (by decide) (hT _ wfl_X1_15) hf dX1_firstWrong_18 (fun v5 hf => ?_)
        refine lv_iload_n hx hb dX1_firstWrong_21 rfl (lv_at hl 2 rfl) ?_
        refine q_iald hx hb hK hR hf dX1_firstWrong_22 (fun v6 hf => ?_)
        obtain ⟨v7, hc, hf⟩ := q_b hf
        refine q_calli (va_runV (As := [.int v4, .int v6]) (rest := []) ⟨hx, hb, hml, hown, hT⟩ (mX3_holdsFor l D kz b0 F X a1 v4 v6 v7 hc) (cwV 2 hT (q_gV wco_X3_holdsFor wml_X1_26 wim_X3_holdsFor wse_X3_holdsFor win_X3) rfl rfl rfl hdX3_holdsFor ⟨Nat.le_of_ble_eq_true rfl, Nat.le_of_ble_eq_true rfl⟩) (q_preV vqX3 (fX3_holdsFor_is hc) hR hK hz) rfl rfl hl.1 rfl (lv_room (Nat.le_of_ble_eq_true rfl)) dX1_firstWrong_23 ⟨Nat.le_of_ble_eq_true rfl, Nat.le_of_ble_eq_true rfl⟩) hS (fun H locs hR hS hz => ?_)
        refine lv_aload_n hx hb dX1_firstWrong_26 rfl (lv_at hl 0 rfl) ?_
        refine q_gR hx hb hT hown hK hR iqX1 vqX1 3 (by decide) (hT _ wfl_X1_18) hf dX1_firstWrong_27 (fun v8 hf => ?_)
        refine lv_iload_n hx hb dX1_firstWrong_30 rfl (lv_at hl 2 rfl) ?_
        refine q_zald hx hb hK hR hf dX1_firstWrong_31 (fun v9 hf => ?_)
        refine lv_icmp_eq (tgt := 37) hx hb dX1_firstWrong_32 (by decide) (fun hc => ?_) (fun hc => ?_)
        · have hf := q_t hf hc
          obtain ⟨v10, ev10⟩ : ∃ y : Int32, y = (v1 + (1 : Int32)) := ⟨_, rfl⟩
          have hf := q_lt ev10 hf
          refine lv_iinc (v := v10) (lv' := [(2, .int v10), (0, .ref a0), (1, .ref a1)]) hx hb dX1_firstWrong_37 hl (k := 2) rfl (by rw [ev10]; rfl) (by decide) rfl (fun ls hl => ?_)
          refine lv_goto (tgt := 2) hx hb dX1_firstWrong_40 (by decide) ?_
          exact ih0 _ out hf hret hex _ _ _ hR hS hz (lv_sub hl [1, 2, 0] rfl)
        · have hf := q_f hf hc
          refine lv_iload_n hx hb dX1_firstWrong_35 rfl (lv_at hl 2 rfl) ?_
          subst hQ
          exact q_iret hx hb hr hlocks hR hS hz (hret _ (Option.some.inj hf).symm) rfl dX1_firstWrong_36
  refine hL F _ o11 ho (fun z hz9 => by subst hz9; exact Option.some.inj hf) (fun  h9 => ?_) _ _ _ hR hS hz (lv_sub hl [1, 2, 0] rfl)
  subst h9
  intro H locs ls hR hS hz hl
  have hf := qsm0_r hf
  refine lv_iconst (v := (-1 : Int32)) hx hb dX1_firstWrong_43 (by decide) ?_
  subst hQ
  exact q_iret hx hb hr hlocks hR hS hz (Option.some.inj hf) rfl dX1_firstWrong_44
/-! X2_add -/
def fX2_add (F : Nat) (X : qH) (a0 : Nat) (a1 : Int32) (a2 : Int32) : Option (qH) :=
qIs 2 X a0 <|
(qgI X 2 a0 0).bind fun v1 =>
if v1 < (6 : Int32) then ((qgR X 2 a0 1).bind fun v2 =>
(qgI X 2 a0 0).bind fun v3 =>
(qaS X 0 v2 v3 a1).bind fun X4 =>
(qgR X4 2 a0 2).bind fun v5 =>
(qgI X4 2 a0 0).bind fun v6 =>
(qaS X4 0 v5 v6 a2).bind fun X7 =>
(qgI X7 2 a0 0).bind fun v8 =>
qlt (v8 + (1 : Int32)) fun v9 =>
(qpI X7 2 a0 0 v9).bind fun X10 =>
some X10)
else (some X)
abbrev rmX2_add : Room := { frames := 0, cells := 0, slots := 0, locals := 0 }
theorem fX2_add_is {F : Nat} {X : qH} {a0 : Nat} {a1 : Int32} {a2 : Int32} {r9 : qH} (h : fX2_add F X a0 a1 a2 = some r9) : ∃ fs, X a0 = some (.inr (2, fs)) := (qIs_spec h).1
theorem hdX2_add : yX2_add.cls = RX2 ∧ yX2_add.cls ≠ "java/lang/invoke/MethodHandle" ∧ yX2_add.cls ≠ "java/lang/invoke/VarHandle" ∧ (parseMethodDescriptor yX2_add.desc).map (fun d => d.parameters.length) = some 2 := by decide +kernel
set_option maxHeartbeats 4000000 in
set_option maxRecDepth 100000 in
theorem mX2_add (l : Launch) (D : va_G) (kz : Nat → Nat) (b0 F : Nat) (X : qH) (a0 : Nat) (a1 : Int32) (a2 : Int32)  (X9 : qH) (hf : fX2_add F X a0 a1 a2 = some X9) : Met l yX2_add (qws yX2_add cX2_add 3 none) rmX2_add (va_Pc [.ref a0, .int a1, .int a2] (qU D kz b0 X)) (va_Qv (fun (u : qH) => u = X9) (fun u t => qO D kz b0 u t) (qA b0)) 0 0 (qA b0) := by
  refine q_start (by decide) (Nat.le_of_ble_eq_true rfl) ?_
  intro p e s m args below meth c hx hb hr hlocks hnm hml hown hT hR hK hz ls hl
  have hown : s.vm.findClass RX2 = some m.cls := hown
  have hl : lv_has ls 3 [(0, .ref a0), (1, .int a1), (2, .int a2)] := hl
  have hS : va_S (qA b0) s.heap s.heap [] := va_S.rf
  obtain ⟨Q, hQ⟩ : ∃ Q, Q = MQ below (va_Qv (fun (u : qH) => u = X9) (fun u t => qO D kz b0 u t) (qA b0)) args s 0 0 (qA b0) := ⟨_, rfl⟩
  rw [← hQ]
  unfold fX2_add at hf
  obtain ⟨hthis, hf⟩ := qIs_spec hf
  refine lv_aload_n hx hb dX2_add_0 rfl (lv_at hl 0 rfl) ?_
  refine q_gI hx hb hT hown hK hR iqX2 vqX2 0 (by decide) (hT _ wfl_X2_18) hf dX2_add_1 (fun v1 hf => ?_)
  refine lv_bipush (v := (6 : Int32)) hx hb dX2_add_4 (by decide) ?_
  refine lv_icmp_lt (tgt := 10) hx hb dX2_add_6 (by decide) (fun hc => ?_) (fun hc => ?_)
  · have hf := q_t hf hc
    refine lv_aload_n hx hb dX2_add_10 rfl (lv_at hl 0 rfl) ?_
    refine q_gR hx hb hT hown hK hR iqX2 vqX2 1 (by decide) (hT _ wfl_X2_9) hf dX2_add_11 (fun v2 hf => ?_)
    refine lv_aload_n hx hb dX2_add_14 rfl (lv_at hl 0 rfl) ?_
    refine q_gI hx hb hT hown hK hR iqX2 vqX2 0 (by decide) (hT _ wfl_X2_18) hf dX2_add_15 (fun v3 hf => ?_)
    refine lv_iload_n hx hb dX2_add_18 rfl (lv_at hl 1 rfl) ?_
    refine q_iast hx hb hK hR hS hz hf dX2_add_19 (fun X4 hf H locs hR hS hz => ?_)
    refine lv_aload_n hx hb dX2_add_20 rfl (lv_at hl 0 rfl) ?_
    refine q_gR hx hb hT hown hK hR iqX2 vqX2 2 (by decide) (hT _ wfl_X2_15) hf dX2_add_21 (fun v5 hf => ?_)
    refine lv_aload_n hx hb dX2_add_24 rfl (lv_at hl 0 rfl) ?_
    refine q_gI hx hb hT hown hK hR iqX2 vqX2 0 (by decide) (hT _ wfl_X2_18) hf dX2_add_25 (fun v6 hf => ?_)
    refine lv_iload_n hx hb dX2_add_28 rfl (lv_at hl 2 rfl) ?_
    refine q_iast hx hb hK hR hS hz hf dX2_add_29 (fun X7 hf H locs hR hS hz => ?_)
    refine lv_aload_n hx hb dX2_add_30 rfl (lv_at hl 0 rfl) ?_
    refine lv_dup hx hb dX2_add_31 rfl ?_
    refine q_gI hx hb hT hown hK hR iqX2 vqX2 0 (by decide) (hT _ wfl_X2_18) hf dX2_add_32 (fun v8 hf => ?_)
    refine lv_iconst (v := (1 : Int32)) hx hb dX2_add_35 (by decide) ?_
    refine lv_iadd hx hb dX2_add_36 ?_
    refine lv_topi (fun v9 ev9 => ?_)
    have hf := q_lt ev9 hf
    refine q_pI hx hb hT hown hK hR hS hz iqX2 vqX2 tyX2_ok nmX2 0 (by decide) (hT _ wfl_X2_18) rfl rfl hf dX2_add_37 (fun X10 hf H locs hR hS hz => ?_)
    subst hQ
    exact q_vret hx hb hr hlocks hR hS hz (Option.some.inj hf) dX2_add_40
  · have hf := q_f hf hc
    subst hQ
    exact q_vret hx hb hr hlocks hR hS hz (Option.some.inj hf) dX2_add_9
/-! X3_cellOver -/
def fX3_cellOver (F : Nat) (X : qH) (a0 : Nat) (a1 : Nat) (a2 : Int32) : Option (Int32) :=
qIs 3 X a0 <|
(qgI X 0 a1 0).bind fun v1 =>
(qgR X 0 a1 6).bind fun v2 =>
(qaI X 0 v2 a2).bind fun v3 =>
(qgI X 3 a0 2).bind fun v4 =>
qlt (if (v3 + v4) < (v1 - (1 : Int32)) then (v3 + v4) else (v1 - (1 : Int32))) fun v5 =>
qlt (if (0 : Int32) < v5 then v5 else (0 : Int32)) fun v6 =>
some v6
abbrev rmX3_cellOver : Room := { frames := 1, cells := 0, slots := 0, locals := 21 }
theorem fX3_cellOver_is {F : Nat} {X : qH} {a0 : Nat} {a1 : Nat} {a2 : Int32} {r9 : Int32} (h : fX3_cellOver F X a0 a1 a2 = some r9) : ∃ fs, X a0 = some (.inr (3, fs)) := (qIs_spec h).1
theorem hdX3_cellOver : yX3_cellOver.cls = RX3 ∧ yX3_cellOver.cls ≠ "java/lang/invoke/MethodHandle" ∧ yX3_cellOver.cls ≠ "java/lang/invoke/VarHandle" ∧ (parseMethodDescriptor yX3_cellOver.desc).map (fun d => d.parameters.length) = some 2 := by decide +kernel
set_option maxHeartbeats 4000000 in
set_option maxRecDepth 100000 in
theorem mX3_cellOver (l : Launch) (D : va_G) (kz : Nat → Nat) (b0 F : Nat) (X : qH) (a0 : Nat) (a1 : Nat) (a2 : Int32) (r : Int32) (hf : fX3_cellOver F X a0 a1 a2 = some r) : Met l yX3_cellOver (qws yX3_cellOver cX3_cellOver 3 (some .int)) rmX3_cellOver (va_Pc [.ref a0, .ref a1, .int a2] (qU D kz b0 X)) (va_Qi (fun (r' : Int32) (u : qH) => r' = r ∧ u = X) (fun u t => qO D kz b0 u t) (qA b0)) 0 0 (qA b0) := by
  refine q_start (by decide) (Nat.le_of_ble_eq_true rfl) ?_
  intro p e s m args below meth c hx hb hr hlocks hnm hml hown hT hR hK hz ls hl
  have hown : s.vm.findClass RX3 = some m.cls := hown
  have hl : lv_has ls 3 [(0, .ref a0), (1, .ref a1), (2, .int a2)] := hl
  have hS : va_S (qA b0) s.heap s.heap [] := va_S.rf
  obtain ⟨Q, hQ⟩ : ∃ Q, Q = MQ below (va_Qi (fun (r' : Int32) (u : qH) => r' = r ∧ u = X) (fun u t => qO D kz b0 u t) (qA b0)) args s 0 0 (qA b0) := ⟨_, rfl⟩
  rw [← hQ]
  unfold fX3_cellOver at hf
  obtain ⟨hthis, hf⟩ := qIs_spec hf
  refine lv_iconst (v := (0 : Int32)) hx hb dX3_cellOver_0 (by decide) ?_
  refine lv_aload_n hx hb dX3_cellOver_1 rfl (lv_at hl 1 rfl) ?_
  refine q_gI hx hb hT hown hK hR iqX0 vqX0 0 (by decide) (hT _ wfl_X3_55) hf dX3_cellOver_2 (fun v1 hf => ?_)
  refine lv_iconst (v := (1 : Int32)) hx hb dX3_cellOver_5 (by decide) ?_
  refine lv_isub hx hb dX3_cellOver_6 ?_
  refine lv_aload_n hx hb dX3_cellOver_7 rfl (lv_at hl 1 rfl) ?_
  refine q_gR hx hb hT hown hK hR iqX0 vqX0 6 (by decide) (hT _ wfl_X3_58) hf dX3_cellOver_8 (fun v2 hf => ?_)
  refine lv_iload_n hx hb dX3_cellOver_11 rfl (lv_at hl 2 rfl) ?_
  refine q_iald hx hb hK hR hf dX3_cellOver_12 (fun v3 hf => ?_)
  refine lv_aload_n hx hb dX3_cellOver_13 rfl (lv_at hl 0 rfl) ?_
  refine q_gI hx hb hT hown hK hR iqX3 vqX3 2 (by decide) (hT _ wfl_X3_39) hf dX3_cellOver_14 (fun v4 hf => ?_)
  refine lv_iadd hx hb dX3_cellOver_17 ?_
  refine va_mmin hx hb (hml.trans hl.1.symm) hown (hT _ wml_X3_61) (hT _ wst_Mmin) (hT _ win_Math) (hT _ wco_Mmin) (Nat.le_of_ble_eq_true rfl) (Nat.le_of_ble_eq_true rfl) (Nat.le_of_ble_eq_true rfl) (Nat.le_of_ble_eq_true rfl) dX3_cellOver_18 ?_
  refine lv_topi (fun v5 ev5 => ?_)
  have hf := q_lt ev5 hf
  refine va_mmax hx hb (hml.trans hl.1.symm) hown (hT _ wml_X3_67) (hT _ wst_Mmax) (hT _ win_Math) (hT _ wco_Mmax) (Nat.le_of_ble_eq_true rfl) (Nat.le_of_ble_eq_true rfl) (Nat.le_of_ble_eq_true rfl) (Nat.le_of_ble_eq_true rfl) dX3_cellOver_21 ?_
  refine lv_topi (fun v6 ev6 => ?_)
  have hf := q_lt ev6 hf
  subst hQ
  exact q_iret hx hb hr hlocks hR hS hz (Option.some.inj hf) rfl dX3_cellOver_24
/-! X3_housesOver -/
def fX3_housesOver_L5_B (F : Nat) (X : qH) (a0 : Nat) (a1 : Nat) (a2 : Int32) (self0 : Int32 → Int32 → Option (Int32)) (v1 : Int32) (v2 : Int32) : Option (Int32) :=
(qgI X 0 a1 5).bind fun v3 =>
if v3 ≤ v2 then (some v1)
else ((fX3_cellOver F X a0 a1 v2).bind fun v4 =>
(if v4 = a2 then (qlt (v1 ||| ((1 : Int32) <<< (v2 &&& 31))) fun v7 =>
some v7)
else (some v1) : Option Int32).bind fun v5 =>
qlt (v2 + (1 : Int32)) fun v6 =>
self0 v5 v6)
def fX3_housesOver_L5 (F : Nat) (X : qH) (a0 : Nat) (a1 : Nat) (a2 : Int32) : Nat → Int32 → Int32 → Option (Int32)
  | 0, _, _ => none
  | n + 1, v1, v2 => fX3_housesOver_L5_B F X a0 a1 a2 (fX3_housesOver_L5 F X a0 a1 a2 n) v1 v2
def fX3_housesOver (F : Nat) (X : qH) (a0 : Nat) (a1 : Nat) (a2 : Int32) : Option (Int32) :=
qIs 3 X a0 <|
(fX3_housesOver_L5 F X a0 a1 a2 F (0 : Int32) (0 : Int32)).bind fun v8 =>
some v8
abbrev rmX3_housesOver : Room := { frames := 2, cells := 0, slots := 0, locals := 43 }
theorem fX3_housesOver_is {F : Nat} {X : qH} {a0 : Nat} {a1 : Nat} {a2 : Int32} {r9 : Int32} (h : fX3_housesOver F X a0 a1 a2 = some r9) : ∃ fs, X a0 = some (.inr (3, fs)) := (qIs_spec h).1
theorem hdX3_housesOver : yX3_housesOver.cls = RX3 ∧ yX3_housesOver.cls ≠ "java/lang/invoke/MethodHandle" ∧ yX3_housesOver.cls ≠ "java/lang/invoke/VarHandle" ∧ (parseMethodDescriptor yX3_housesOver.desc).map (fun d => d.parameters.length) = some 2 := by decide +kernel
set_option maxHeartbeats 4000000 in
set_option maxRecDepth 100000 in
theorem mX3_housesOver (l : Launch) (D : va_G) (kz : Nat → Nat) (b0 F : Nat) (X : qH) (a0 : Nat) (a1 : Nat) (a2 : Int32) (r : Int32) (hf : fX3_housesOver F X a0 a1 a2 = some r) : Met l yX3_housesOver (qws yX3_housesOver cX3_housesOver 5 (some .int)) rmX3_housesOver (va_Pc [.ref a0, .ref a1, .int a2] (qU D kz b0 X)) (va_Qi (fun (r' : Int32) (u : qH) => r' = r ∧ u = X) (fun u t => qO D kz b0 u t) (qA b0)) 0 0 (qA b0) := by
  refine q_start (by decide) (Nat.le_of_ble_eq_true rfl) ?_
  intro p e s m args below meth c hx hb hr hlocks hnm hml hown hT hR hK hz ls hl
  have hown : s.vm.findClass RX3 = some m.cls := hown
  have hl : lv_has ls 5 [(0, .ref a0), (1, .ref a1), (2, .int a2)] := hl
  have hS : va_S (qA b0) s.heap s.heap [] := va_S.rf
  obtain ⟨Q, hQ⟩ : ∃ Q, Q = MQ below (va_Qi (fun (r' : Int32) (u : qH) => r' = r ∧ u = X) (fun u t => qO D kz b0 u t) (qA b0)) args s 0 0 (qA b0) := ⟨_, rfl⟩
  rw [← hQ]
  unfold fX3_housesOver at hf
  obtain ⟨hthis, hf⟩ := qIs_spec hf
  refine lv_iconst (v := (0 : Int32)) hx hb dX3_housesOver_0 (by decide) ?_
  refine lv_istore_n (lv' := [(3, .int (0 : Int32)), (0, .ref a0), (1, .ref a1), (2, .int a2)]) hx hb dX3_housesOver_1 rfl hl (by decide) rfl (fun ls hl => ?_)
  refine lv_iconst (v := (0 : Int32)) hx hb dX3_housesOver_2 (by decide) ?_
  refine lv_istore (lv' := [(4, .int (0 : Int32)), (3, .int (0 : Int32)), (0, .ref a0), (1, .ref a1), (2, .int a2)]) hx hb dX3_housesOver_3 hl (by decide) rfl (fun ls hl => ?_)
  obtain ⟨v8, ho, hf⟩ := q_b hf
  have hL : ∀ (n : Nat) (v1 : Int32) (v2 : Int32) (out : Int32), fX3_housesOver_L5 F X a0 a1 a2 n v1 v2 = some out → (∀ (v8 : Int32), out = v8 → ∀ (H : Heap) (locs : List Loc) (ls : Array Slot), qR D kz b0 X H → va_S (qA b0) s.heap H locs → b0 ≤ H.size → lv_has ls 5 [(3, .int v8)] → W p l e rmX3_housesOver s m args below meth c H locs 0 0 Q (F0 m 38 ls [])) → ∀ (H : Heap) (locs : List Loc) (ls : Array Slot), qR D kz b0 X H → va_S (qA b0) s.heap H locs → b0 ≤ H.size → lv_has ls 5 [(0, .ref a0), (1, .ref a1), (2, .int a2), (3, .int v1), (4, .int v2)] → W p l e rmX3_housesOver s m args below meth c H locs 0 0 Q (F0 m 5 ls []) := by
    intro n9
    induction n9 with
    | zero =>
      intro v1 v2 out hf
      exact absurd (show none = some out from hf) (by simp)
    | succ n9 ih0 =>
      intro v1 v2 out hf hex H locs ls hR hS hz hl
      have hf : fX3_housesOver_L5_B F X a0 a1 a2 (fX3_housesOver_L5 F X a0 a1 a2 n9) v1 v2 = some out := hf
      unfold fX3_housesOver_L5_B at hf
      refine lv_iload hx hb dX3_housesOver_5 (lv_at hl 4 rfl) ?_
      refine lv_aload_n hx hb dX3_housesOver_7 rfl (lv_at hl 1 rfl) ?_
      refine q_gI hx hb hT hown hK hR iqX0 vqX0 5 (by decide) (hT _ wfl_X3_45) hf dX3_housesOver_8 (fun v3 hf => ?_)
      refine lv_icmp_ge (tgt := 38) hx hb dX3_housesOver_11 (by decide) (fun hc => ?_) (fun hc => ?_)
      · have hf := q_t hf hc
        exact hex _ (Option.some.inj hf).symm _ _ _ hR hS hz (lv_sub hl [3] rfl)
      · have hf := q_f hf hc
        refine lv_aload_n hx hb dX3_housesOver_14 rfl (lv_at hl 0 rfl) ?_
        refine lv_aload_n hx hb dX3_housesOver_15 rfl (lv_at hl 1 rfl) ?_
        refine lv_iload hx hb dX3_housesOver_16 (lv_at hl 4 rfl) ?_
        obtain ⟨v4, hc, hf⟩ := q_b hf
        refine q_calli (va_runV (As := [.ref a1, .int v2]) (rest := []) ⟨hx, hb, hml, hown, hT⟩ (mX3_cellOver l D kz b0 F X a0 a1 v2 v4 hc) (cwV 2 hT (q_gV wco_X3_cellOver wml_X3_70 wim_X3_cellOver wse_X3_cellOver win_X3) rfl rfl rfl hdX3_cellOver ⟨Nat.le_of_ble_eq_true rfl, Nat.le_of_ble_eq_true rfl⟩) (q_preV vqX3 (fX3_cellOver_is hc) hR hK hz) rfl rfl hl.1 rfl (lv_room (Nat.le_of_ble_eq_true rfl)) dX3_housesOver_18 ⟨Nat.le_of_ble_eq_true rfl, Nat.le_of_ble_eq_true rfl⟩) hS (fun H locs hR hS hz => ?_)
        refine lv_iload_n hx hb dX3_housesOver_21 rfl (lv_at hl 2 rfl) ?_
        obtain ⟨v5, hp, hf⟩ := q_b hf
        have hJ : ∀ (H : Heap) (locs : List Loc) (ls : Array Slot), qR D kz b0 X H → va_S (qA b0) s.heap H locs → b0 ≤ H.size → lv_has ls 5 [(0, .ref a0), (1, .ref a1), (2, .int a2), (3, .int v5), (4, .int v2)] → W p l e rmX3_housesOver s m args below meth c H locs 0 0 Q (F0 m 32 ls []) := by
          intro H locs ls hR hS hz hl
          obtain ⟨v6, ev6⟩ : ∃ y : Int32, y = (v2 + (1 : Int32)) := ⟨_, rfl⟩
          have hf := q_lt ev6 hf
          refine lv_iinc (v := v6) (lv' := [(4, .int v6), (0, .ref a0), (1, .ref a1), (2, .int a2), (3, .int v5)]) hx hb dX3_housesOver_32 hl (k := 4) rfl (by rw [ev6]; rfl) (by decide) rfl (fun ls hl => ?_)
          refine lv_goto (tgt := 5) hx hb dX3_housesOver_35 (by decide) ?_
          exact ih0 _ _ out hf hex _ _ _ hR hS hz (lv_sub hl [1, 2, 3, 4, 0] rfl)
        have hf := hp
        refine lv_icmp_ne (tgt := 32) hx hb dX3_housesOver_22 (by decide) (fun hc => ?_) (fun hc => ?_)
        · have hf := q_f hf hc
          cases hf
          exact hJ _ _ _ hR hS hz (lv_sub hl [0, 1, 2, 3, 4] rfl)
        · have hf := q_t hf hc
          refine lv_iload_n hx hb dX3_housesOver_25 rfl (lv_at hl 3 rfl) ?_
          refine lv_iconst (v := (1 : Int32)) hx hb dX3_housesOver_26 (by decide) ?_
          refine lv_iload hx hb dX3_housesOver_27 (lv_at hl 4 rfl) ?_
          refine lv_ishl hx hb dX3_housesOver_29 ?_
          refine lv_ior hx hb dX3_housesOver_30 ?_
          refine lv_topi (fun v7 ev7 => ?_)
          have hf := q_lt ev7 hf
          refine lv_istore_n (lv' := [(3, .int v7), (0, .ref a0), (1, .ref a1), (2, .int a2), (4, .int v2)]) hx hb dX3_housesOver_31 rfl hl (by decide) rfl (fun ls hl => ?_)
          cases hf
          exact hJ _ _ _ hR hS hz (lv_sub hl [1, 2, 3, 0, 4] rfl)
  refine hL F _ _ _ ho (fun z0 h9 => ?_) _ _ _ hR hS hz (lv_sub hl [2, 3, 4, 1, 0] rfl)
  cases h9
  intro H locs ls hR hS hz hl
  refine lv_iload_n hx hb dX3_housesOver_38 rfl (lv_at hl 0 rfl) ?_
  subst hQ
  exact q_iret hx hb hr hlocks hR hS hz (Option.some.inj hf) rfl dX3_housesOver_39
/-! J6_bitCount_0f7a4 -/
def fJ6_bitCount_0f7a4 (F : Nat) (X : qH) (a0 : Int32) : Option (Int32) :=
qlt (a0 - (((a0.toUInt32 >>> ((1 : Int32).toUInt32 &&& Int32.toUInt32 31)).toInt32) &&& (1431655765 : Int32))) fun v1 =>
qlt ((v1 &&& (858993459 : Int32)) + (((v1.toUInt32 >>> ((2 : Int32).toUInt32 &&& Int32.toUInt32 31)).toInt32) &&& (858993459 : Int32))) fun v2 =>
qlt ((v2 + ((v2.toUInt32 >>> ((4 : Int32).toUInt32 &&& Int32.toUInt32 31)).toInt32)) &&& (252645135 : Int32)) fun v3 =>
qlt (v3 + ((v3.toUInt32 >>> ((8 : Int32).toUInt32 &&& Int32.toUInt32 31)).toInt32)) fun v4 =>
qlt (v4 + ((v4.toUInt32 >>> ((16 : Int32).toUInt32 &&& Int32.toUInt32 31)).toInt32)) fun v5 =>
some (v5 &&& (63 : Int32))
abbrev rmJ6_bitCount_0f7a4 : Room := { frames := 0, cells := 0, slots := 0, locals := 0 }
theorem hdJ6_bitCount_0f7a4 : yJ6_bitCount_0f7a4.cls ≠ "java/lang/invoke/MethodHandle" ∧ yJ6_bitCount_0f7a4.cls ≠ "java/lang/invoke/VarHandle" ∧ (parseMethodDescriptor yJ6_bitCount_0f7a4.desc).map (fun d => d.parameters.length) = some 1 := by decide +kernel
set_option maxHeartbeats 4000000 in
set_option maxRecDepth 100000 in
theorem mJ6_bitCount_0f7a4 (l : Launch) (D : va_G) (kz : Nat → Nat) (b0 F : Nat) (X : qH) (a0 : Int32) (r : Int32) (hf : fJ6_bitCount_0f7a4 F X a0 = some r) : Met l yJ6_bitCount_0f7a4 (qws yJ6_bitCount_0f7a4 cJ6_bitCount_0f7a4 1 (some .int)) rmJ6_bitCount_0f7a4 (va_Pc [.int a0] (qU D kz b0 X)) (va_Qi (fun (r' : Int32) (u : qH) => r' = r ∧ u = X) (fun u t => qO D kz b0 u t) (qA b0)) 0 0 (qA b0) := by
  refine q_start (by decide) (Nat.le_of_ble_eq_true rfl) ?_
  intro p e s m args below meth c hx hb hr hlocks hnm hml hown hT hR hK hz ls hl
  have hown : s.vm.findClass RJ6 = some m.cls := hown
  have hl : lv_has ls 1 [(0, .int a0)] := hl
  have hS : va_S (qA b0) s.heap s.heap [] := va_S.rf
  obtain ⟨Q, hQ⟩ : ∃ Q, Q = MQ below (va_Qi (fun (r' : Int32) (u : qH) => r' = r ∧ u = X) (fun u t => qO D kz b0 u t) (qA b0)) args s 0 0 (qA b0) := ⟨_, rfl⟩
  rw [← hQ]
  unfold fJ6_bitCount_0f7a4 at hf
  refine lv_iload_n hx hb dJ6_bitCount_0f7a4_0 rfl (lv_at hl 0 rfl) ?_
  refine lv_iload_n hx hb dJ6_bitCount_0f7a4_1 rfl (lv_at hl 0 rfl) ?_
  refine lv_iconst (v := (1 : Int32)) hx hb dJ6_bitCount_0f7a4_2 (by decide) ?_
  refine lv_iushr hx hb dJ6_bitCount_0f7a4_3 rfl ?_
  refine lv_ldcw (v := (1431655765 : Int32)) hx hb hown (hT _ wk_J6_265) dJ6_bitCount_0f7a4_4 ?_
  refine lv_iand hx hb dJ6_bitCount_0f7a4_7 ?_
  refine lv_isub hx hb dJ6_bitCount_0f7a4_8 ?_
  refine lv_topi (fun v1 ev1 => ?_)
  have hf := q_lt ev1 hf
  refine lv_istore_n (lv' := [(0, .int v1)]) hx hb dJ6_bitCount_0f7a4_9 rfl hl (by decide) rfl (fun ls hl => ?_)
  refine lv_iload_n hx hb dJ6_bitCount_0f7a4_10 rfl (lv_at hl 0 rfl) ?_
  refine lv_ldcw (v := (858993459 : Int32)) hx hb hown (hT _ wk_J6_266) dJ6_bitCount_0f7a4_11 ?_
  refine lv_iand hx hb dJ6_bitCount_0f7a4_14 ?_
  refine lv_iload_n hx hb dJ6_bitCount_0f7a4_15 rfl (lv_at hl 0 rfl) ?_
  refine lv_iconst (v := (2 : Int32)) hx hb dJ6_bitCount_0f7a4_16 (by decide) ?_
  refine lv_iushr hx hb dJ6_bitCount_0f7a4_17 rfl ?_
  refine lv_ldcw (v := (858993459 : Int32)) hx hb hown (hT _ wk_J6_266) dJ6_bitCount_0f7a4_18 ?_
  refine lv_iand hx hb dJ6_bitCount_0f7a4_21 ?_
  refine lv_iadd hx hb dJ6_bitCount_0f7a4_22 ?_
  refine lv_topi (fun v2 ev2 => ?_)
  have hf := q_lt ev2 hf
  refine lv_istore_n (lv' := [(0, .int v2)]) hx hb dJ6_bitCount_0f7a4_23 rfl hl (by decide) rfl (fun ls hl => ?_)
  refine lv_iload_n hx hb dJ6_bitCount_0f7a4_24 rfl (lv_at hl 0 rfl) ?_
  refine lv_iload_n hx hb dJ6_bitCount_0f7a4_25 rfl (lv_at hl 0 rfl) ?_
  refine lv_iconst (v := (4 : Int32)) hx hb dJ6_bitCount_0f7a4_26 (by decide) ?_
  refine lv_iushr hx hb dJ6_bitCount_0f7a4_27 rfl ?_
  refine lv_iadd hx hb dJ6_bitCount_0f7a4_28 ?_
  refine lv_ldcw (v := (252645135 : Int32)) hx hb hown (hT _ wk_J6_267) dJ6_bitCount_0f7a4_29 ?_
  refine lv_iand hx hb dJ6_bitCount_0f7a4_32 ?_
  refine lv_topi (fun v3 ev3 => ?_)
  have hf := q_lt ev3 hf
  refine lv_istore_n (lv' := [(0, .int v3)]) hx hb dJ6_bitCount_0f7a4_33 rfl hl (by decide) rfl (fun ls hl => ?_)
  refine lv_iload_n hx hb dJ6_bitCount_0f7a4_34 rfl (lv_at hl 0 rfl) ?_
  refine lv_iload_n hx hb dJ6_bitCount_0f7a4_35 rfl (lv_at hl 0 rfl) ?_
  refine lv_bipush (v := (8 : Int32)) hx hb dJ6_bitCount_0f7a4_36 (by decide) ?_
  refine lv_iushr hx hb dJ6_bitCount_0f7a4_38 rfl ?_
  refine lv_iadd hx hb dJ6_bitCount_0f7a4_39 ?_
  refine lv_topi (fun v4 ev4 => ?_)
  have hf := q_lt ev4 hf
  refine lv_istore_n (lv' := [(0, .int v4)]) hx hb dJ6_bitCount_0f7a4_40 rfl hl (by decide) rfl (fun ls hl => ?_)
  refine lv_iload_n hx hb dJ6_bitCount_0f7a4_41 rfl (lv_at hl 0 rfl) ?_
  refine lv_iload_n hx hb dJ6_bitCount_0f7a4_42 rfl (lv_at hl 0 rfl) ?_
  refine lv_bipush (v := (16 : Int32)) hx hb dJ6_bitCount_0f7a4_43 (by decide) ?_
  refine lv_iushr hx hb dJ6_bitCount_0f7a4_45 rfl ?_
  refine lv_iadd hx hb dJ6_bitCount_0f7a4_46 ?_
  refine lv_topi (fun v5 ev5 => ?_)
  have hf := q_lt ev5 hf
  refine lv_istore_n (lv' := [(0, .int v5)]) hx hb dJ6_bitCount_0f7a4_47 rfl hl (by decide) rfl (fun ls hl => ?_)
  refine lv_iload_n hx hb dJ6_bitCount_0f7a4_48 rfl (lv_at hl 0 rfl) ?_
  refine lv_bipush (v := (63 : Int32)) hx hb dJ6_bitCount_0f7a4_49 (by decide) ?_
  refine lv_iand hx hb dJ6_bitCount_0f7a4_51 ?_
  subst hQ
  exact q_iret hx hb hr hlocks hR hS hz (Option.some.inj hf) rfl dJ6_bitCount_0f7a4_52
/-! X2_alikeAhead -/
def fX2_alikeAhead_L4_B (F : Nat) (X : qH) (a0 : Nat) (a1 : Int32) (self0 : Int32 → Int32 → Option (Int32)) (v1 : Int32) (v2 : Int32) : Option (Int32) :=
if a1 ≤ v2 then (some v1)
else ((qgR X 2 a0 1).bind fun v3 =>
(qaI X 0 v3 v2).bind fun v4 =>
(qgR X 2 a0 1).bind fun v5 =>
(qaI X 0 v5 a1).bind fun v6 =>
(if v4 = v6 then ((qgR X 2 a0 2).bind fun v9 =>
(qaI X 0 v9 v2).bind fun v10 =>
(qgR X 2 a0 2).bind fun v11 =>
(qaI X 0 v11 a1).bind fun v12 =>
if v10 = v12 then (qlt (v1 + (1 : Int32)) fun v13 =>
some v13)
else (some v1))
else (some v1) : Option Int32).bind fun v7 =>
qlt (v2 + (1 : Int32)) fun v8 =>
self0 v7 v8)
def fX2_alikeAhead_L4 (F : Nat) (X : qH) (a0 : Nat) (a1 : Int32) : Nat → Int32 → Int32 → Option (Int32)
  | 0, _, _ => none
  | n + 1, v1, v2 => fX2_alikeAhead_L4_B F X a0 a1 (fX2_alikeAhead_L4 F X a0 a1 n) v1 v2
def fX2_alikeAhead (F : Nat) (X : qH) (a0 : Nat) (a1 : Int32) : Option (Int32) :=
qIs 2 X a0 <|
(fX2_alikeAhead_L4 F X a0 a1 F (0 : Int32) (0 : Int32)).bind fun v14 =>
some v14
abbrev rmX2_alikeAhead : Room := { frames := 0, cells := 0, slots := 0, locals := 0 }
theorem fX2_alikeAhead_is {F : Nat} {X : qH} {a0 : Nat} {a1 : Int32} {r9 : Int32} (h : fX2_alikeAhead F X a0 a1 = some r9) : ∃ fs, X a0 = some (.inr (2, fs)) := (qIs_spec h).1
theorem hdX2_alikeAhead : yX2_alikeAhead.cls = RX2 ∧ yX2_alikeAhead.cls ≠ "java/lang/invoke/MethodHandle" ∧ yX2_alikeAhead.cls ≠ "java/lang/invoke/VarHandle" ∧ (parseMethodDescriptor yX2_alikeAhead.desc).map (fun d => d.parameters.length) = some 1 := by decide +kernel
set_option maxHeartbeats 4000000 in
set_option maxRecDepth 100000 in
theorem mX2_alikeAhead (l : Launch) (D : va_G) (kz : Nat → Nat) (b0 F : Nat) (X : qH) (a0 : Nat) (a1 : Int32) (r : Int32) (hf : fX2_alikeAhead F X a0 a1 = some r) : Met l yX2_alikeAhead (qws yX2_alikeAhead cX2_alikeAhead 4 (some .int)) rmX2_alikeAhead (va_Pc [.ref a0, .int a1] (qU D kz b0 X)) (va_Qi (fun (r' : Int32) (u : qH) => r' = r ∧ u = X) (fun u t => qO D kz b0 u t) (qA b0)) 0 0 (qA b0) := by
  refine q_start (by decide) (Nat.le_of_ble_eq_true rfl) ?_
  intro p e s m args below meth c hx hb hr hlocks hnm hml hown hT hR hK hz ls hl
  have hown : s.vm.findClass RX2 = some m.cls := hown
  have hl : lv_has ls 4 [(0, .ref a0), (1, .int a1)] := hl
  have hS : va_S (qA b0) s.heap s.heap [] := va_S.rf
  obtain ⟨Q, hQ⟩ : ∃ Q, Q = MQ below (va_Qi (fun (r' : Int32) (u : qH) => r' = r ∧ u = X) (fun u t => qO D kz b0 u t) (qA b0)) args s 0 0 (qA b0) := ⟨_, rfl⟩
  rw [← hQ]
  unfold fX2_alikeAhead at hf
  obtain ⟨hthis, hf⟩ := qIs_spec hf
  refine lv_iconst (v := (0 : Int32)) hx hb dX2_alikeAhead_0 (by decide) ?_
  refine lv_istore_n (lv' := [(2, .int (0 : Int32)), (0, .ref a0), (1, .int a1)]) hx hb dX2_alikeAhead_1 rfl hl (by decide) rfl (fun ls hl => ?_)
  refine lv_iconst (v := (0 : Int32)) hx hb dX2_alikeAhead_2 (by decide) ?_
  refine lv_istore_n (lv' := [(3, .int (0 : Int32)), (2, .int (0 : Int32)), (0, .ref a0), (1, .int a1)]) hx hb dX2_alikeAhead_3 rfl hl (by decide) rfl (fun ls hl => ?_)
  obtain ⟨v14, ho, hf⟩ := q_b hf
  have hL : ∀ (n : Nat) (v1 : Int32) (v2 : Int32) (out : Int32), fX2_alikeAhead_L4 F X a0 a1 n v1 v2 = some out → (∀ (v14 : Int32), out = v14 → ∀ (H : Heap) (locs : List Loc) (ls : Array Slot), qR D kz b0 X H → va_S (qA b0) s.heap H locs → b0 ≤ H.size → lv_has ls 4 [(2, .int v14)] → W p l e rmX2_alikeAhead s m args below meth c H locs 0 0 Q (F0 m 48 ls [])) → ∀ (H : Heap) (locs : List Loc) (ls : Array Slot), qR D kz b0 X H → va_S (qA b0) s.heap H locs → b0 ≤ H.size → lv_has ls 4 [(0, .ref a0), (1, .int a1), (2, .int v1), (3, .int v2)] → W p l e rmX2_alikeAhead s m args below meth c H locs 0 0 Q (F0 m 4 ls []) := by
    intro n9
    induction n9 with
    | zero =>
      intro v1 v2 out hf
      exact absurd (show none = some out from hf) (by simp)
    | succ n9 ih0 =>
      intro v1 v2 out hf hex H locs ls hR hS hz hl
      have hf : fX2_alikeAhead_L4_B F X a0 a1 (fX2_alikeAhead_L4 F X a0 a1 n9) v1 v2 = some out := hf
      unfold fX2_alikeAhead_L4_B at hf
      refine lv_iload_n hx hb dX2_alikeAhead_4 rfl (lv_at hl 3 rfl) ?_
      refine lv_iload_n hx hb dX2_alikeAhead_5 rfl (lv_at hl 1 rfl) ?_
      refine lv_icmp_ge (tgt := 48) hx hb dX2_alikeAhead_6 (by decide) (fun hc => ?_) (fun hc => ?_)
      · have hf := q_t hf hc
        exact hex _ (Option.some.inj hf).symm _ _ _ hR hS hz (lv_sub hl [2] rfl)
      · have hf := q_f hf hc
        refine lv_aload_n hx hb dX2_alikeAhead_9 rfl (lv_at hl 0 rfl) ?_
        refine q_gR hx hb hT hown hK hR iqX2 vqX2 1 (by decide) (hT _ wfl_X2_9) hf dX2_alikeAhead_10 (fun v3 hf => ?_)
        refine lv_iload_n hx hb dX2_alikeAhead_13 rfl (lv_at hl 3 rfl) ?_
        refine q_iald hx hb hK hR hf dX2_alikeAhead_14 (fun v4 hf => ?_)
        refine lv_aload_n hx hb dX2_alikeAhead_15 rfl (lv_at hl 0 rfl) ?_
        refine q_gR hx hb hT hown hK hR iqX2 vqX2 1 (by decide) (hT _ wfl_X2_9) hf dX2_alikeAhead_16 (fun v5 hf => ?_)
        refine lv_iload_n hx hb dX2_alikeAhead_19 rfl (lv_at hl 1 rfl) ?_
        refine q_iald hx hb hK hR hf dX2_alikeAhead_20 (fun v6 hf => ?_)
        obtain ⟨v7, hp, hf⟩ := q_b hf
        have hJ : ∀ (H : Heap) (locs : List Loc) (ls : Array Slot), qR D kz b0 X H → va_S (qA b0) s.heap H locs → b0 ≤ H.size → lv_has ls 4 [(0, .ref a0), (1, .int a1), (2, .int v7), (3, .int v2)] → W p l e rmX2_alikeAhead s m args below meth c H locs 0 0 Q (F0 m 42 ls []) := by
          intro H locs ls hR hS hz hl
          obtain ⟨v8, ev8⟩ : ∃ y : Int32, y = (v2 + (1 : Int32)) := ⟨_, rfl⟩
          have hf := q_lt ev8 hf
          refine lv_iinc (v := v8) (lv' := [(3, .int v8), (0, .ref a0), (1, .int a1), (2, .int v7)]) hx hb dX2_alikeAhead_42 hl (k := 3) rfl (by rw [ev8]; rfl) (by decide) rfl (fun ls hl => ?_)
          refine lv_goto (tgt := 4) hx hb dX2_alikeAhead_45 (by decide) ?_
          exact ih0 _ _ out hf hex _ _ _ hR hS hz (lv_sub hl [1, 2, 3, 0] rfl)
        have hf := hp
        refine lv_icmp_ne (tgt := 42) hx hb dX2_alikeAhead_21 (by decide) (fun hc => ?_) (fun hc => ?_)
        · have hf := q_f hf hc
          cases hf
          exact hJ _ _ _ hR hS hz (lv_sub hl [0, 1, 2, 3] rfl)
        · have hf := q_t hf hc
          refine lv_aload_n hx hb dX2_alikeAhead_24 rfl (lv_at hl 0 rfl) ?_
          refine q_gR hx hb hT hown hK hR iqX2 vqX2 2 (by decide) (hT _ wfl_X2_15) hf dX2_alikeAhead_25 (fun v9 hf => ?_)
          refine lv_iload_n hx hb dX2_alikeAhead_28 rfl (lv_at hl 3 rfl) ?_
          refine q_iald hx hb hK hR hf dX2_alikeAhead_29 (fun v10 hf => ?_)
          refine lv_aload_n hx hb dX2_alikeAhead_30 rfl (lv_at hl 0 rfl) ?_
          refine q_gR hx hb hT hown hK hR iqX2 vqX2 2 (by decide) (hT _ wfl_X2_15) hf dX2_alikeAhead_31 (fun v11 hf => ?_)
          refine lv_iload_n hx hb dX2_alikeAhead_34 rfl (lv_at hl 1 rfl) ?_
          refine q_iald hx hb hK hR hf dX2_alikeAhead_35 (fun v12 hf => ?_)
          refine lv_icmp_ne (tgt := 42) hx hb dX2_alikeAhead_36 (by decide) (fun hc => ?_) (fun hc => ?_)
          · have hf := q_f hf hc
            cases hf
            exact hJ _ _ _ hR hS hz (lv_sub hl [0, 1, 2, 3] rfl)
          · have hf := q_t hf hc
            obtain ⟨v13, ev13⟩ : ∃ y : Int32, y = (v1 + (1 : Int32)) := ⟨_, rfl⟩
            have hf := q_lt ev13 hf
            refine lv_iinc (v := v13) (lv' := [(2, .int v13), (0, .ref a0), (1, .int a1), (3, .int v2)]) hx hb dX2_alikeAhead_39 hl (k := 2) rfl (by rw [ev13]; rfl) (by decide) rfl (fun ls hl => ?_)
            cases hf
            exact hJ _ _ _ hR hS hz (lv_sub hl [1, 2, 0, 3] rfl)
  refine hL F _ _ _ ho (fun z0 h9 => ?_) _ _ _ hR hS hz (lv_sub hl [2, 3, 1, 0] rfl)
  cases h9
  intro H locs ls hR hS hz hl
  refine lv_iload_n hx hb dX2_alikeAhead_48 rfl (lv_at hl 0 rfl) ?_
  subst hQ
  exact q_iret hx hb hr hlocks hR hS hz (Option.some.inj hf) rfl dX2_alikeAhead_49
/-! X2_ways -/
def fX2_ways_L5_B (F : Nat) (X : qH) (a0 : Nat) (a1 : Nat) (a2 : Nat) (self0 : Int32 → Int32 → Option (Int32)) (v1 : Int32) (v2 : Int32) : Option (Int32) :=
(qgI X 2 a0 0).bind fun v3 =>
if v3 ≤ v2 then (some v1)
else ((qgR X 2 a0 2).bind fun v4 =>
(qaI X 0 v4 v2).bind fun v5 =>
(fX3_housesOver F X a2 a1 v5).bind fun v6 =>
(fJ6_bitCount_0f7a4 F X v6).bind fun v7 =>
(fX2_alikeAhead F X a0 v2).bind fun v8 =>
qlt (if (0 : Int32) < (v7 - v8) then (v7 - v8) else (0 : Int32)) fun v9 =>
qlt (v1 * v9) fun v10 =>
qlt (v2 + (1 : Int32)) fun v11 =>
self0 v10 v11)
def fX2_ways_L5 (F : Nat) (X : qH) (a0 : Nat) (a1 : Nat) (a2 : Nat) : Nat → Int32 → Int32 → Option (Int32)
  | 0, _, _ => none
  | n + 1, v1, v2 => fX2_ways_L5_B F X a0 a1 a2 (fX2_ways_L5 F X a0 a1 a2 n) v1 v2
def fX2_ways (F : Nat) (X : qH) (a0 : Nat) (a1 : Nat) (a2 : Nat) : Option (Int32) :=
qIs 2 X a0 <|
(fX2_ways_L5 F X a0 a1 a2 F (1 : Int32) (0 : Int32)).bind fun v12 =>
some v12
abbrev rmX2_ways : Room := { frames := 3, cells := 0, slots := 0, locals := 67 }
theorem fX2_ways_is {F : Nat} {X : qH} {a0 : Nat} {a1 : Nat} {a2 : Nat} {r9 : Int32} (h : fX2_ways F X a0 a1 a2 = some r9) : ∃ fs, X a0 = some (.inr (2, fs)) := (qIs_spec h).1
theorem hdX2_ways : yX2_ways.cls = RX2 ∧ yX2_ways.cls ≠ "java/lang/invoke/MethodHandle" ∧ yX2_ways.cls ≠ "java/lang/invoke/VarHandle" ∧ (parseMethodDescriptor yX2_ways.desc).map (fun d => d.parameters.length) = some 2 := by decide +kernel
set_option maxHeartbeats 4000000 in
set_option maxRecDepth 100000 in
theorem mX2_ways (l : Launch) (D : va_G) (kz : Nat → Nat) (b0 F : Nat) (X : qH) (a0 : Nat) (a1 : Nat) (a2 : Nat) (r : Int32) (hf : fX2_ways F X a0 a1 a2 = some r) : Met l yX2_ways (qws yX2_ways cX2_ways 6 (some .int)) rmX2_ways (va_Pc [.ref a0, .ref a1, .ref a2] (qU D kz b0 X)) (va_Qi (fun (r' : Int32) (u : qH) => r' = r ∧ u = X) (fun u t => qO D kz b0 u t) (qA b0)) 0 0 (qA b0) := by
  refine q_start (by decide) (Nat.le_of_ble_eq_true rfl) ?_
  intro p e s m args below meth c hx hb hr hlocks hnm hml hown hT hR hK hz ls hl
  have hown : s.vm.findClass RX2 = some m.cls := hown
  have hl : lv_has ls 6 [(0, .ref a0), (1, .ref a1), (2, .ref a2)] := hl
  have hS : va_S (qA b0) s.heap s.heap [] := va_S.rf
  obtain ⟨Q, hQ⟩ : ∃ Q, Q = MQ below (va_Qi (fun (r' : Int32) (u : qH) => r' = r ∧ u = X) (fun u t => qO D kz b0 u t) (qA b0)) args s 0 0 (qA b0) := ⟨_, rfl⟩
  rw [← hQ]
  unfold fX2_ways at hf
  obtain ⟨hthis, hf⟩ := qIs_spec hf
  refine lv_iconst (v := (1 : Int32)) hx hb dX2_ways_0 (by decide) ?_
  refine lv_istore_n (lv' := [(3, .int (1 : Int32)), (0, .ref a0), (1, .ref a1), (2, .ref a2)]) hx hb dX2_ways_1 rfl hl (by decide) rfl (fun ls hl => ?_)
  refine lv_iconst (v := (0 : Int32)) hx hb dX2_ways_2 (by decide) ?_
  refine lv_istore (lv' := [(4, .int (0 : Int32)), (3, .int (1 : Int32)), (0, .ref a0), (1, .ref a1), (2, .ref a2)]) hx hb dX2_ways_3 hl (by decide) rfl (fun ls hl => ?_)
  obtain ⟨v12, ho, hf⟩ := q_b hf
  have hL : ∀ (n : Nat) (v1 : Int32) (v2 : Int32) (out : Int32), fX2_ways_L5 F X a0 a1 a2 n v1 v2 = some out → (∀ (v12 : Int32), out = v12 → ∀ (H : Heap) (locs : List Loc) (ls : Array Slot), qR D kz b0 X H → va_S (qA b0) s.heap H locs → b0 ≤ H.size → lv_has ls 6 [(3, .int v12)] → W p l e rmX2_ways s m args below meth c H locs 0 0 Q (F0 m 53 ls [])) → ∀ (H : Heap) (locs : List Loc) (ls : Array Slot), qR D kz b0 X H → va_S (qA b0) s.heap H locs → b0 ≤ H.size → lv_has ls 6 [(0, .ref a0), (1, .ref a1), (2, .ref a2), (3, .int v1), (4, .int v2)] → W p l e rmX2_ways s m args below meth c H locs 0 0 Q (F0 m 5 ls []) := by
    intro n9
    induction n9 with
    | zero =>
      intro v1 v2 out hf
      exact absurd (show none = some out from hf) (by simp)
    | succ n9 ih0 =>
      intro v1 v2 out hf hex H locs ls hR hS hz hl
      have hf : fX2_ways_L5_B F X a0 a1 a2 (fX2_ways_L5 F X a0 a1 a2 n9) v1 v2 = some out := hf
      unfold fX2_ways_L5_B at hf
      refine lv_iload hx hb dX2_ways_5 (lv_at hl 4 rfl) ?_
      refine lv_aload_n hx hb dX2_ways_7 rfl (lv_at hl 0 rfl) ?_
      refine q_gI hx hb hT hown hK hR iqX2 vqX2 0 (by decide) (hT _ wfl_X2_18) hf dX2_ways_8 (fun v3 hf => ?_)
      refine lv_icmp_ge (tgt := 53) hx hb dX2_ways_11 (by decide) (fun hc => ?_) (fun hc => ?_)
      · have hf := q_t hf hc
        exact hex _ (Option.some.inj hf).symm _ _ _ hR hS hz (lv_sub hl [3] rfl)
      · have hf := q_f hf hc
        refine lv_aload_n hx hb dX2_ways_14 rfl (lv_at hl 2 rfl) ?_
        refine lv_aload_n hx hb dX2_ways_15 rfl (lv_at hl 1 rfl) ?_
        refine lv_aload_n hx hb dX2_ways_16 rfl (lv_at hl 0 rfl) ?_
        refine q_gR hx hb hT hown hK hR iqX2 vqX2 2 (by decide) (hT _ wfl_X2_15) hf dX2_ways_17 (fun v4 hf => ?_)
        refine lv_iload hx hb dX2_ways_20 (lv_at hl 4 rfl) ?_
        refine q_iald hx hb hK hR hf dX2_ways_22 (fun v5 hf => ?_)
        obtain ⟨v6, hc, hf⟩ := q_b hf
        refine q_calli (va_runV (As := [.ref a1, .int v5]) (rest := []) ⟨hx, hb, hml, hown, hT⟩ (mX3_housesOver l D kz b0 F X a2 a1 v5 v6 hc) (cwV 2 hT (q_gV wco_X3_housesOver wml_X2_22 wim_X3_housesOver wse_X3_housesOver win_X3) rfl rfl rfl hdX3_housesOver ⟨Nat.le_of_ble_eq_true rfl, Nat.le_of_ble_eq_true rfl⟩) (q_preV vqX3 (fX3_housesOver_is hc) hR hK hz) rfl rfl hl.1 rfl (lv_room (Nat.le_of_ble_eq_true rfl)) dX2_ways_23 ⟨Nat.le_of_ble_eq_true rfl, Nat.le_of_ble_eq_true rfl⟩) hS (fun H locs hR hS hz => ?_)
        obtain ⟨v7, hc, hf⟩ := q_b hf
        refine q_calli (va_runS (As := [.int v6]) (rest := []) ⟨hx, hb, hml, hown, hT⟩ (mJ6_bitCount_0f7a4 l D kz b0 F X v6 v7 hc) (va_cwS 1 hT (q_gS wco_J6_bitCount_0f7a4 wml_X2_28 wst_J6_bitCount_0f7a4 win_J6) rfl rfl rfl hdJ6_bitCount_0f7a4 ⟨Nat.le_of_ble_eq_true rfl, Nat.le_of_ble_eq_true rfl⟩) (q_preS hR hK hz) rfl rfl hl.1 rfl (lv_room (Nat.le_of_ble_eq_true rfl)) dX2_ways_26 ⟨Nat.le_of_ble_eq_true rfl, Nat.le_of_ble_eq_true rfl⟩) hS (fun H locs hR hS hz => ?_)
        refine lv_istore (lv' := [(5, .int v7), (0, .ref a0), (1, .ref a1), (2, .ref a2), (3, .int v1), (4, .int v2)]) hx hb dX2_ways_29 hl (by decide) rfl (fun ls hl => ?_)
        refine lv_iload_n hx hb dX2_ways_31 rfl (lv_at hl 4 rfl) ?_
        refine lv_iconst (v := (0 : Int32)) hx hb dX2_ways_32 (by decide) ?_
        refine lv_iload hx hb dX2_ways_33 (lv_at hl 0 rfl) ?_
        refine lv_aload_n hx hb dX2_ways_35 rfl (lv_at hl 1 rfl) ?_
        refine lv_iload hx hb dX2_ways_36 (lv_at hl 5 rfl) ?_
        obtain ⟨v8, hc, hf⟩ := q_b hf
        refine q_calli (va_runV (As := [.int v2]) (rest := [.int v7, .int (0 : Int32), .int v1]) ⟨hx, hb, hml, hown, hT⟩ (mX2_alikeAhead l D kz b0 F X a0 v2 v8 hc) (cwV 1 hT (q_gV wco_X2_alikeAhead wml_X2_34 wim_X2_alikeAhead wse_X2_alikeAhead win_X2) rfl rfl rfl hdX2_alikeAhead ⟨Nat.le_of_ble_eq_true rfl, Nat.le_of_ble_eq_true rfl⟩) (q_preV vqX2 (fX2_alikeAhead_is hc) hR hK hz) rfl rfl hl.1 rfl (lv_room (Nat.le_of_ble_eq_true rfl)) dX2_ways_38 ⟨Nat.le_of_ble_eq_true rfl, Nat.le_of_ble_eq_true rfl⟩) hS (fun H locs hR hS hz => ?_)
        refine lv_isub hx hb dX2_ways_41 ?_
        refine va_mmax hx hb (hml.trans hl.1.symm) hown (hT _ wml_X2_37) (hT _ wst_Mmax) (hT _ win_Math) (hT _ wco_Mmax) (Nat.le_of_ble_eq_true rfl) (Nat.le_of_ble_eq_true rfl) (Nat.le_of_ble_eq_true rfl) (Nat.le_of_ble_eq_true rfl) dX2_ways_42 ?_
        refine lv_topi (fun v9 ev9 => ?_)
        have hf := q_lt ev9 hf
        refine lv_imul hx hb dX2_ways_45 ?_
        refine lv_topi (fun v10 ev10 => ?_)
        have hf := q_lt ev10 hf
        refine lv_istore_n (lv' := [(3, .int v10), (5, .int v7), (0, .ref a0), (1, .ref a1), (2, .ref a2), (4, .int v2)]) hx hb dX2_ways_46 rfl hl (by decide) rfl (fun ls hl => ?_)
        obtain ⟨v11, ev11⟩ : ∃ y : Int32, y = (v2 + (1 : Int32)) := ⟨_, rfl⟩
        have hf := q_lt ev11 hf
        refine lv_iinc (v := v11) (lv' := [(4, .int v11), (3, .int v10), (5, .int v7), (0, .ref a0), (1, .ref a1), (2, .ref a2)]) hx hb dX2_ways_47 hl (k := 5) rfl (by rw [ev11]; rfl) (by decide) rfl (fun ls hl => ?_)
        refine lv_goto (tgt := 5) hx hb dX2_ways_50 (by decide) ?_
        exact ih0 _ _ out hf hex _ _ _ hR hS hz (lv_sub hl [3, 4, 5, 1, 0] rfl)
  refine hL F _ _ _ ho (fun z0 h9 => ?_) _ _ _ hR hS hz (lv_sub hl [2, 3, 4, 1, 0] rfl)
  cases h9
  intro H locs ls hR hS hz hl
  refine lv_iload_n hx hb dX2_ways_53 rfl (lv_at hl 0 rfl) ?_
  subst hQ
  exact q_iret hx hb hr hlocks hR hS hz (Option.some.inj hf) rfl dX2_ways_54
end
