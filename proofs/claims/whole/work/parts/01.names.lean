-- ===== PART A: goes FIRST, ahead of the names: the tables' words, and 'selects' of the private methods out of them =====
/-- a private method of a class that the tables say can be made, by its rows of tables_1 -/
def lw_okq (q : MethodName × Nat) : Prop := (q.1.cls ≠ "java/lang/invoke/MethodHandle" ∧ q.1.cls ≠ "java/lang/invoke/VarHandle") ∧ Cond.instantiable q.1.cls q.2 ∈ tables_1 ∧ Cond.privateMethod q.1 ∈ tables_1 ∧ Cond.instanceMethod q.1 ∈ tables_1
theorem lw_p0 : lw_okq (⟨"BoxOnARope", "refuse", "(I)I"⟩, 11) := ⟨⟨by decide +kernel, by decide +kernel⟩, List.mem_of_getElem? (i := 21) (by decide +kernel), List.mem_of_getElem? (i := 237) (by decide +kernel), List.mem_of_getElem? (i := 238) (by decide +kernel)⟩
theorem lw_p1 : lw_okq (⟨"BoxOnARope", "becomeKitchen", "()I"⟩, 11) := ⟨⟨by decide +kernel, by decide +kernel⟩, List.mem_of_getElem? (i := 21) (by decide +kernel), List.mem_of_getElem? (i := 249) (by decide +kernel), List.mem_of_getElem? (i := 250) (by decide +kernel)⟩
theorem lw_p2 : lw_okq (⟨"BoxOnARope$Telling", "letterAt", "(I)I"⟩, 2) := ⟨⟨by decide +kernel, by decide +kernel⟩, List.mem_of_getElem? (i := 80) (by decide +kernel), List.mem_of_getElem? (i := 392) (by decide +kernel), List.mem_of_getElem? (i := 393) (by decide +kernel)⟩
theorem lw_p3 : lw_okq (⟨"BoxOnARope$Telling", "number", "(II)I"⟩, 2) := ⟨⟨by decide +kernel, by decide +kernel⟩, List.mem_of_getElem? (i := 80) (by decide +kernel), List.mem_of_getElem? (i := 396) (by decide +kernel), List.mem_of_getElem? (i := 397) (by decide +kernel)⟩
theorem lw_p4 : lw_okq (⟨"BoxOnARope", "refuseAbove", "(I)I"⟩, 11) := ⟨⟨by decide +kernel, by decide +kernel⟩, List.mem_of_getElem? (i := 21) (by decide +kernel), List.mem_of_getElem? (i := 484) (by decide +kernel), List.mem_of_getElem? (i := 485) (by decide +kernel)⟩
theorem lw_p5 : lw_okq (⟨"BoxOnARope", "lookAtNow", "()V"⟩, 11) := ⟨⟨by decide +kernel, by decide +kernel⟩, List.mem_of_getElem? (i := 21) (by decide +kernel), List.mem_of_getElem? (i := 489) (by decide +kernel), List.mem_of_getElem? (i := 490) (by decide +kernel)⟩
theorem lw_p6 : lw_okq (⟨"BoxOnARope$Evening", "lineUp", "(LBoxOnARope$Kitchen;[II)V"⟩, 11) := ⟨⟨by decide +kernel, by decide +kernel⟩, List.mem_of_getElem? (i := 94) (by decide +kernel), List.mem_of_getElem? (i := 497) (by decide +kernel), List.mem_of_getElem? (i := 498) (by decide +kernel)⟩
theorem lw_p7 : lw_okq (⟨"BoxOnARope$Evening", "carryAll", "(LBoxOnARope$Kitchen;)V"⟩, 11) := ⟨⟨by decide +kernel, by decide +kernel⟩, List.mem_of_getElem? (i := 94) (by decide +kernel), List.mem_of_getElem? (i := 501) (by decide +kernel), List.mem_of_getElem? (i := 502) (by decide +kernel)⟩
theorem lw_p8 : lw_okq (⟨"BoxOnARope$Evening", "behindGo", "(LBoxOnARope$Kitchen;I)I"⟩, 11) := ⟨⟨by decide +kernel, by decide +kernel⟩, List.mem_of_getElem? (i := 94) (by decide +kernel), List.mem_of_getElem? (i := 505) (by decide +kernel), List.mem_of_getElem? (i := 506) (by decide +kernel)⟩
theorem lw_p9 : lw_okq (⟨"BoxOnARope$Evening", "kindOf", "(LBoxOnARope$Kitchen;I)LBoxOnARope$Plain;"⟩, 11) := ⟨⟨by decide +kernel, by decide +kernel⟩, List.mem_of_getElem? (i := 94) (by decide +kernel), List.mem_of_getElem? (i := 509) (by decide +kernel), List.mem_of_getElem? (i := 510) (by decide +kernel)⟩
theorem lw_p10 : lw_okq (⟨"BoxOnARope$Evening", "serve", "(LBoxOnARope$Kitchen;I)V"⟩, 11) := ⟨⟨by decide +kernel, by decide +kernel⟩, List.mem_of_getElem? (i := 94) (by decide +kernel), List.mem_of_getElem? (i := 527) (by decide +kernel), List.mem_of_getElem? (i := 528) (by decide +kernel)⟩
theorem lw_p11 : lw_okq (⟨"BoxOnARope$Evening", "sumUp", "(LBoxOnARope$Kitchen;)V"⟩, 11) := ⟨⟨by decide +kernel, by decide +kernel⟩, List.mem_of_getElem? (i := 94) (by decide +kernel), List.mem_of_getElem? (i := 578) (by decide +kernel), List.mem_of_getElem? (i := 579) (by decide +kernel)⟩
theorem lw_p12 : lw_okq (⟨"BoxOnARope", "findBest", "(I)I"⟩, 11) := ⟨⟨by decide +kernel, by decide +kernel⟩, List.mem_of_getElem? (i := 21) (by decide +kernel), List.mem_of_getElem? (i := 594) (by decide +kernel), List.mem_of_getElem? (i := 595) (by decide +kernel)⟩
theorem lw_p13 : lw_okq (⟨"BoxOnARope$Orders", "swapPlaces", "(II)V"⟩, 2) := ⟨⟨by decide +kernel, by decide +kernel⟩, List.mem_of_getElem? (i := 185) (by decide +kernel), List.mem_of_getElem? (i := 607) (by decide +kernel), List.mem_of_getElem? (i := 608) (by decide +kernel)⟩
theorem lw_p14 : lw_okq (⟨"BoxOnARope", "worthWith", "(II)I"⟩, 11) := ⟨⟨by decide +kernel, by decide +kernel⟩, List.mem_of_getElem? (i := 21) (by decide +kernel), List.mem_of_getElem? (i := 619) (by decide +kernel), List.mem_of_getElem? (i := 620) (by decide +kernel)⟩
theorem lw_p15 : lw_okq (⟨"BoxOnARope", "worthNow", "()I"⟩, 11) := ⟨⟨by decide +kernel, by decide +kernel⟩, List.mem_of_getElem? (i := 21) (by decide +kernel), List.mem_of_getElem? (i := 627) (by decide +kernel), List.mem_of_getElem? (i := 628) (by decide +kernel)⟩
def lw_privs_1 : List (MethodName × Nat) := [(⟨"BoxOnARope", "refuse", "(I)I"⟩, 11), (⟨"BoxOnARope", "becomeKitchen", "()I"⟩, 11), (⟨"BoxOnARope$Telling", "letterAt", "(I)I"⟩, 2), (⟨"BoxOnARope$Telling", "number", "(II)I"⟩, 2), (⟨"BoxOnARope", "refuseAbove", "(I)I"⟩, 11), (⟨"BoxOnARope", "lookAtNow", "()V"⟩, 11), (⟨"BoxOnARope$Evening", "lineUp", "(LBoxOnARope$Kitchen;[II)V"⟩, 11), (⟨"BoxOnARope$Evening", "carryAll", "(LBoxOnARope$Kitchen;)V"⟩, 11), (⟨"BoxOnARope$Evening", "behindGo", "(LBoxOnARope$Kitchen;I)I"⟩, 11), (⟨"BoxOnARope$Evening", "kindOf", "(LBoxOnARope$Kitchen;I)LBoxOnARope$Plain;"⟩, 11), (⟨"BoxOnARope$Evening", "serve", "(LBoxOnARope$Kitchen;I)V"⟩, 11), (⟨"BoxOnARope$Evening", "sumUp", "(LBoxOnARope$Kitchen;)V"⟩, 11), (⟨"BoxOnARope", "findBest", "(I)I"⟩, 11), (⟨"BoxOnARope$Orders", "swapPlaces", "(II)V"⟩, 2), (⟨"BoxOnARope", "worthWith", "(II)I"⟩, 11), (⟨"BoxOnARope", "worthNow", "()I"⟩, 11)]
theorem lw_r1 : ∀ q ∈ lw_privs_1, lw_okq q := List.forall_mem_cons.mpr ⟨lw_p0, List.forall_mem_cons.mpr ⟨lw_p1, List.forall_mem_cons.mpr ⟨lw_p2, List.forall_mem_cons.mpr ⟨lw_p3, List.forall_mem_cons.mpr ⟨lw_p4, List.forall_mem_cons.mpr ⟨lw_p5, List.forall_mem_cons.mpr ⟨lw_p6, List.forall_mem_cons.mpr ⟨lw_p7, List.forall_mem_cons.mpr ⟨lw_p8, List.forall_mem_cons.mpr ⟨lw_p9, List.forall_mem_cons.mpr ⟨lw_p10, List.forall_mem_cons.mpr ⟨lw_p11, List.forall_mem_cons.mpr ⟨lw_p12, List.forall_mem_cons.mpr ⟨lw_p13, List.forall_mem_cons.mpr ⟨lw_p14, List.forall_mem_cons.mpr ⟨lw_p15, fun _ h => absurd h List.not_mem_nil⟩⟩⟩⟩⟩⟩⟩⟩⟩⟩⟩⟩⟩⟩⟩⟩
theorem lw_p16 : lw_okq (⟨"BoxOnARope", "findFitting", "()I"⟩, 11) := ⟨⟨by decide +kernel, by decide +kernel⟩, List.mem_of_getElem? (i := 21) (by decide +kernel), List.mem_of_getElem? (i := 674) (by decide +kernel), List.mem_of_getElem? (i := 675) (by decide +kernel)⟩
theorem lw_p17 : lw_okq (⟨"BoxOnARope", "firstNotSo", "([I)I"⟩, 11) := ⟨⟨by decide +kernel, by decide +kernel⟩, List.mem_of_getElem? (i := 21) (by decide +kernel), List.mem_of_getElem? (i := 678) (by decide +kernel), List.mem_of_getElem? (i := 679) (by decide +kernel)⟩
theorem lw_p18 : lw_okq (⟨"BoxOnARopeModel", "no", "(I)I"⟩, 24) := ⟨⟨by decide +kernel, by decide +kernel⟩, List.mem_of_getElem? (i := 706) (by decide +kernel), List.mem_of_getElem? (i := 789) (by decide +kernel), List.mem_of_getElem? (i := 790) (by decide +kernel)⟩
theorem lw_p19 : lw_okq (⟨"BoxOnARopeModel", "statement", "(Z)I"⟩, 24) := ⟨⟨by decide +kernel, by decide +kernel⟩, List.mem_of_getElem? (i := 706) (by decide +kernel), List.mem_of_getElem? (i := 797) (by decide +kernel), List.mem_of_getElem? (i := 798) (by decide +kernel)⟩
theorem lw_p20 : lw_okq (⟨"BoxOnARopeModel", "is", "(I)Z"⟩, 24) := ⟨⟨by decide +kernel, by decide +kernel⟩, List.mem_of_getElem? (i := 706) (by decide +kernel), List.mem_of_getElem? (i := 801) (by decide +kernel), List.mem_of_getElem? (i := 802) (by decide +kernel)⟩
theorem lw_p21 : lw_okq (⟨"BoxOnARopeModel", "digits", "(I)Z"⟩, 24) := ⟨⟨by decide +kernel, by decide +kernel⟩, List.mem_of_getElem? (i := 706) (by decide +kernel), List.mem_of_getElem? (i := 807) (by decide +kernel), List.mem_of_getElem? (i := 808) (by decide +kernel)⟩
theorem lw_p22 : lw_okq (⟨"BoxOnARopeModel", "two", "(I)I"⟩, 24) := ⟨⟨by decide +kernel, by decide +kernel⟩, List.mem_of_getElem? (i := 706) (by decide +kernel), List.mem_of_getElem? (i := 814) (by decide +kernel), List.mem_of_getElem? (i := 815) (by decide +kernel)⟩
theorem lw_p23 : lw_okq (⟨"BoxOnARopeModel", "isDish", "(I)Z"⟩, 24) := ⟨⟨by decide +kernel, by decide +kernel⟩, List.mem_of_getElem? (i := 706) (by decide +kernel), List.mem_of_getElem? (i := 818) (by decide +kernel), List.mem_of_getElem? (i := 819) (by decide +kernel)⟩
theorem lw_p24 : lw_okq (⟨"BoxOnARopeModel", "placeOf", "(I)I"⟩, 24) := ⟨⟨by decide +kernel, by decide +kernel⟩, List.mem_of_getElem? (i := 706) (by decide +kernel), List.mem_of_getElem? (i := 822) (by decide +kernel), List.mem_of_getElem? (i := 823) (by decide +kernel)⟩
theorem lw_p25 : lw_okq (⟨"BoxOnARopeModel", "swap", "(II)V"⟩, 24) := ⟨⟨by decide +kernel, by decide +kernel⟩, List.mem_of_getElem? (i := 706) (by decide +kernel), List.mem_of_getElem? (i := 826) (by decide +kernel), List.mem_of_getElem? (i := 827) (by decide +kernel)⟩
theorem lw_p26 : lw_okq (⟨"BoxOnARopeModel", "keep", "([I)V"⟩, 24) := ⟨⟨by decide +kernel, by decide +kernel⟩, List.mem_of_getElem? (i := 706) (by decide +kernel), List.mem_of_getElem? (i := 830) (by decide +kernel), List.mem_of_getElem? (i := 831) (by decide +kernel)⟩
theorem lw_p27 : lw_okq (⟨"BoxOnARopeModel", "again", "([I)V"⟩, 24) := ⟨⟨by decide +kernel, by decide +kernel⟩, List.mem_of_getElem? (i := 706) (by decide +kernel), List.mem_of_getElem? (i := 834) (by decide +kernel), List.mem_of_getElem? (i := 835) (by decide +kernel)⟩
theorem lw_p28 : lw_okq (⟨"BoxOnARopeModel", "seconds", "(I)I"⟩, 24) := ⟨⟨by decide +kernel, by decide +kernel⟩, List.mem_of_getElem? (i := 706) (by decide +kernel), List.mem_of_getElem? (i := 872) (by decide +kernel), List.mem_of_getElem? (i := 873) (by decide +kernel)⟩
theorem lw_p29 : lw_okq (⟨"BoxOnARopeModel", "noMuch", "(I)I"⟩, 24) := ⟨⟨by decide +kernel, by decide +kernel⟩, List.mem_of_getElem? (i := 706) (by decide +kernel), List.mem_of_getElem? (i := 882) (by decide +kernel), List.mem_of_getElem? (i := 883) (by decide +kernel)⟩
theorem lw_p30 : lw_okq (⟨"BoxOnARopeModel", "run", "(I)V"⟩, 24) := ⟨⟨by decide +kernel, by decide +kernel⟩, List.mem_of_getElem? (i := 706) (by decide +kernel), List.mem_of_getElem? (i := 887) (by decide +kernel), List.mem_of_getElem? (i := 888) (by decide +kernel)⟩
theorem lw_p31 : lw_okq (⟨"BoxOnARopeModel", "totalOf", "(I)I"⟩, 24) := ⟨⟨by decide +kernel, by decide +kernel⟩, List.mem_of_getElem? (i := 706) (by decide +kernel), List.mem_of_getElem? (i := 891) (by decide +kernel), List.mem_of_getElem? (i := 892) (by decide +kernel)⟩
def lw_privs_2 : List (MethodName × Nat) := [(⟨"BoxOnARope", "findFitting", "()I"⟩, 11), (⟨"BoxOnARope", "firstNotSo", "([I)I"⟩, 11), (⟨"BoxOnARopeModel", "no", "(I)I"⟩, 24), (⟨"BoxOnARopeModel", "statement", "(Z)I"⟩, 24), (⟨"BoxOnARopeModel", "is", "(I)Z"⟩, 24), (⟨"BoxOnARopeModel", "digits", "(I)Z"⟩, 24), (⟨"BoxOnARopeModel", "two", "(I)I"⟩, 24), (⟨"BoxOnARopeModel", "isDish", "(I)Z"⟩, 24), (⟨"BoxOnARopeModel", "placeOf", "(I)I"⟩, 24), (⟨"BoxOnARopeModel", "swap", "(II)V"⟩, 24), (⟨"BoxOnARopeModel", "keep", "([I)V"⟩, 24), (⟨"BoxOnARopeModel", "again", "([I)V"⟩, 24), (⟨"BoxOnARopeModel", "seconds", "(I)I"⟩, 24), (⟨"BoxOnARopeModel", "noMuch", "(I)I"⟩, 24), (⟨"BoxOnARopeModel", "run", "(I)V"⟩, 24), (⟨"BoxOnARopeModel", "totalOf", "(I)I"⟩, 24)]
theorem lw_r2 : ∀ q ∈ lw_privs_2, lw_okq q := List.forall_mem_cons.mpr ⟨lw_p16, List.forall_mem_cons.mpr ⟨lw_p17, List.forall_mem_cons.mpr ⟨lw_p18, List.forall_mem_cons.mpr ⟨lw_p19, List.forall_mem_cons.mpr ⟨lw_p20, List.forall_mem_cons.mpr ⟨lw_p21, List.forall_mem_cons.mpr ⟨lw_p22, List.forall_mem_cons.mpr ⟨lw_p23, List.forall_mem_cons.mpr ⟨lw_p24, List.forall_mem_cons.mpr ⟨lw_p25, List.forall_mem_cons.mpr ⟨lw_p26, List.forall_mem_cons.mpr ⟨lw_p27, List.forall_mem_cons.mpr ⟨lw_p28, List.forall_mem_cons.mpr ⟨lw_p29, List.forall_mem_cons.mpr ⟨lw_p30, List.forall_mem_cons.mpr ⟨lw_p31, fun _ h => absurd h List.not_mem_nil⟩⟩⟩⟩⟩⟩⟩⟩⟩⟩⟩⟩⟩⟩⟩⟩
theorem lw_p32 : lw_okq (⟨"BoxOnARopeModel", "lateOf", "(I)I"⟩, 24) := ⟨⟨by decide +kernel, by decide +kernel⟩, List.mem_of_getElem? (i := 706) (by decide +kernel), List.mem_of_getElem? (i := 895) (by decide +kernel), List.mem_of_getElem? (i := 896) (by decide +kernel)⟩
theorem lw_p33 : lw_okq (⟨"BoxOnARopeModel", "begin", "(I)I"⟩, 24) := ⟨⟨by decide +kernel, by decide +kernel⟩, List.mem_of_getElem? (i := 706) (by decide +kernel), List.mem_of_getElem? (i := 899) (by decide +kernel), List.mem_of_getElem? (i := 900) (by decide +kernel)⟩
theorem lw_p34 : lw_okq (⟨"BoxOnARopeModel", "warmOf", "(I)I"⟩, 24) := ⟨⟨by decide +kernel, by decide +kernel⟩, List.mem_of_getElem? (i := 706) (by decide +kernel), List.mem_of_getElem? (i := 903) (by decide +kernel), List.mem_of_getElem? (i := 904) (by decide +kernel)⟩
theorem lw_p35 : lw_okq (⟨"BoxOnARopeModel", "servedOf", "(I)I"⟩, 24) := ⟨⟨by decide +kernel, by decide +kernel⟩, List.mem_of_getElem? (i := 706) (by decide +kernel), List.mem_of_getElem? (i := 907) (by decide +kernel), List.mem_of_getElem? (i := 908) (by decide +kernel)⟩
theorem lw_p36 : lw_okq (⟨"BoxOnARopeModel", "cools", "(II)I"⟩, 24) := ⟨⟨by decide +kernel, by decide +kernel⟩, List.mem_of_getElem? (i := 706) (by decide +kernel), List.mem_of_getElem? (i := 911) (by decide +kernel), List.mem_of_getElem? (i := 912) (by decide +kernel)⟩
theorem lw_p37 : lw_okq (⟨"BoxOnARopeModel", "slops", "(I)I"⟩, 24) := ⟨⟨by decide +kernel, by decide +kernel⟩, List.mem_of_getElem? (i := 706) (by decide +kernel), List.mem_of_getElem? (i := 915) (by decide +kernel), List.mem_of_getElem? (i := 916) (by decide +kernel)⟩
theorem lw_p38 : lw_okq (⟨"BoxOnARopeModel", "stoodOf", "(I)I"⟩, 24) := ⟨⟨by decide +kernel, by decide +kernel⟩, List.mem_of_getElem? (i := 706) (by decide +kernel), List.mem_of_getElem? (i := 919) (by decide +kernel), List.mem_of_getElem? (i := 920) (by decide +kernel)⟩
theorem lw_p39 : lw_okq (⟨"BoxOnARopeModel", "bestOf", "(I)I"⟩, 24) := ⟨⟨by decide +kernel, by decide +kernel⟩, List.mem_of_getElem? (i := 706) (by decide +kernel), List.mem_of_getElem? (i := 931) (by decide +kernel), List.mem_of_getElem? (i := 932) (by decide +kernel)⟩
theorem lw_p40 : lw_okq (⟨"BoxOnARopeModel", "begin", "()V"⟩, 24) := ⟨⟨by decide +kernel, by decide +kernel⟩, List.mem_of_getElem? (i := 706) (by decide +kernel), List.mem_of_getElem? (i := 935) (by decide +kernel), List.mem_of_getElem? (i := 936) (by decide +kernel)⟩
theorem lw_p41 : lw_okq (⟨"BoxOnARopeModel", "next", "()Z"⟩, 24) := ⟨⟨by decide +kernel, by decide +kernel⟩, List.mem_of_getElem? (i := 706) (by decide +kernel), List.mem_of_getElem? (i := 939) (by decide +kernel), List.mem_of_getElem? (i := 940) (by decide +kernel)⟩
theorem lw_p42 : lw_okq (⟨"BoxOnARopeModel", "worth", "()I"⟩, 24) := ⟨⟨by decide +kernel, by decide +kernel⟩, List.mem_of_getElem? (i := 706) (by decide +kernel), List.mem_of_getElem? (i := 951) (by decide +kernel), List.mem_of_getElem? (i := 952) (by decide +kernel)⟩
theorem lw_p43 : lw_okq (⟨"BoxOnARopeModel", "more", "(II)I"⟩, 24) := ⟨⟨by decide +kernel, by decide +kernel⟩, List.mem_of_getElem? (i := 706) (by decide +kernel), List.mem_of_getElem? (i := 959) (by decide +kernel), List.mem_of_getElem? (i := 960) (by decide +kernel)⟩
theorem lw_p44 : lw_okq (⟨"BoxOnARopeModel", "isHalved", "(I)Z"⟩, 24) := ⟨⟨by decide +kernel, by decide +kernel⟩, List.mem_of_getElem? (i := 706) (by decide +kernel), List.mem_of_getElem? (i := 979) (by decide +kernel), List.mem_of_getElem? (i := 980) (by decide +kernel)⟩
theorem lw_p45 : lw_okq (⟨"BoxOnARopeModel", "stands", "(I)I"⟩, 24) := ⟨⟨by decide +kernel, by decide +kernel⟩, List.mem_of_getElem? (i := 706) (by decide +kernel), List.mem_of_getElem? (i := 995) (by decide +kernel), List.mem_of_getElem? (i := 996) (by decide +kernel)⟩
theorem lw_p46 : lw_okq (⟨"BoxOnARopeModel", "wrong", "()I"⟩, 24) := ⟨⟨by decide +kernel, by decide +kernel⟩, List.mem_of_getElem? (i := 706) (by decide +kernel), List.mem_of_getElem? (i := 1007) (by decide +kernel), List.mem_of_getElem? (i := 1008) (by decide +kernel)⟩
def lw_privs_3 : List (MethodName × Nat) := [(⟨"BoxOnARopeModel", "lateOf", "(I)I"⟩, 24), (⟨"BoxOnARopeModel", "begin", "(I)I"⟩, 24), (⟨"BoxOnARopeModel", "warmOf", "(I)I"⟩, 24), (⟨"BoxOnARopeModel", "servedOf", "(I)I"⟩, 24), (⟨"BoxOnARopeModel", "cools", "(II)I"⟩, 24), (⟨"BoxOnARopeModel", "slops", "(I)I"⟩, 24), (⟨"BoxOnARopeModel", "stoodOf", "(I)I"⟩, 24), (⟨"BoxOnARopeModel", "bestOf", "(I)I"⟩, 24), (⟨"BoxOnARopeModel", "begin", "()V"⟩, 24), (⟨"BoxOnARopeModel", "next", "()Z"⟩, 24), (⟨"BoxOnARopeModel", "worth", "()I"⟩, 24), (⟨"BoxOnARopeModel", "more", "(II)I"⟩, 24), (⟨"BoxOnARopeModel", "isHalved", "(I)Z"⟩, 24), (⟨"BoxOnARopeModel", "stands", "(I)I"⟩, 24), (⟨"BoxOnARopeModel", "wrong", "()I"⟩, 24)]
theorem lw_r3 : ∀ q ∈ lw_privs_3, lw_okq q := List.forall_mem_cons.mpr ⟨lw_p32, List.forall_mem_cons.mpr ⟨lw_p33, List.forall_mem_cons.mpr ⟨lw_p34, List.forall_mem_cons.mpr ⟨lw_p35, List.forall_mem_cons.mpr ⟨lw_p36, List.forall_mem_cons.mpr ⟨lw_p37, List.forall_mem_cons.mpr ⟨lw_p38, List.forall_mem_cons.mpr ⟨lw_p39, List.forall_mem_cons.mpr ⟨lw_p40, List.forall_mem_cons.mpr ⟨lw_p41, List.forall_mem_cons.mpr ⟨lw_p42, List.forall_mem_cons.mpr ⟨lw_p43, List.forall_mem_cons.mpr ⟨lw_p44, List.forall_mem_cons.mpr ⟨lw_p45, List.forall_mem_cons.mpr ⟨lw_p46, fun _ h => absurd h List.not_mem_nil⟩⟩⟩⟩⟩⟩⟩⟩⟩⟩⟩⟩⟩⟩⟩
def lw_privs : List (MethodName × Nat) := lw_privs_1 ++ (lw_privs_2 ++ (lw_privs_3))
def lw_tbl : List Cond := k2_sels lw_privs ++ tables_1
theorem lw_privs_ok : ∀ q ∈ lw_privs, lw_okq q := by
  show ∀ q ∈ lw_privs_1 ++ (lw_privs_2 ++ (lw_privs_3)), lw_okq q
  exact List.forall_mem_append.mpr ⟨lw_r1, List.forall_mem_append.mpr ⟨lw_r2, lw_r3⟩⟩
def RX0 : String := "BoxOnARope$Cold"
def TX0 : u_T := fun k => match k with
  | _ => ("", "", "", false)
def tyX0 : Nat → FieldType := fun k => match k with
  | _ => .int
abbrev wsX00 : List Cond := u_ws RX0 TX0 0
theorem nmX0 : ∀ a, a < 0 → ∀ b, b < 0 → a ≠ b → (TX0 a).2.1 ≠ (TX0 b).2.1 := by decide +kernel
theorem tyX0_ok : ∀ k, k < 0 → parseFieldDescriptor (TX0 k).2.2.1 = some (tyX0 k) := by decide +kernel
abbrev cX0_init : ByteArray := prog_2_method_1_code
def yX0_init : MethodName := ⟨RX0, "<init>", "()V"⟩
abbrev cX0_cooled : ByteArray := prog_2_method_2_code
def yX0_cooled : MethodName := ⟨RX0, "cooled", "(I)I"⟩
def RX1 : String := "BoxOnARope$Evening"
def TX1 : u_T := fun k => match k with
  | 0 => ("BoxOnARope$Evening", "kinds", "[LBoxOnARope$Plain;", true)
  | 1 => ("BoxOnARope$Evening", "line", "[I", true)
  | 2 => ("BoxOnARope$Evening", "inLine", "I", false)
  | 3 => ("BoxOnARope$Evening", "up", "[I", true)
  | 4 => ("BoxOnARope$Evening", "served", "[I", true)
  | 5 => ("BoxOnARope$Evening", "warm", "[I", true)
  | 6 => ("BoxOnARope$Evening", "late", "[I", true)
  | 7 => ("BoxOnARope$Evening", "go", "[I", true)
  | 8 => ("BoxOnARope$Evening", "stood", "[I", true)
  | 9 => ("BoxOnARope$Evening", "slops", "[I", true)
  | _ => ("BoxOnARope$Evening", "totals", "[I", true)
def tyX1 : Nat → FieldType := fun k => match k with
  | 0 => .array (.object "BoxOnARope$Plain")
  | 1 => .array .int
  | 2 => .int
  | 3 => .array .int
  | 4 => .array .int
  | 5 => .array .int
  | 6 => .array .int
  | 7 => .array .int
  | 8 => .array .int
  | 9 => .array .int
  | _ => .array .int
abbrev wsX10 : List Cond := u_ws RX1 TX1 11
theorem nmX1 : ∀ a, a < 11 → ∀ b, b < 11 → a ≠ b → (TX1 a).2.1 ≠ (TX1 b).2.1 := by decide +kernel
theorem tyX1_ok : ∀ k, k < 11 → parseFieldDescriptor (TX1 k).2.2.1 = some (tyX1 k) := by decide +kernel
abbrev cX1_init : ByteArray := prog_3_method_1_code
def yX1_init : MethodName := ⟨RX1, "<init>", "()V"⟩
abbrev cX1_pass : ByteArray := prog_3_method_2_code
def yX1_pass : MethodName := ⟨RX1, "pass", "(LBoxOnARope$Kitchen;[II)V"⟩
abbrev cX1_lineUp : ByteArray := prog_3_method_3_code
def yX1_lineUp : MethodName := ⟨RX1, "lineUp", "(LBoxOnARope$Kitchen;[II)V"⟩
abbrev cX1_carryAll : ByteArray := prog_3_method_4_code
def yX1_carryAll : MethodName := ⟨RX1, "carryAll", "(LBoxOnARope$Kitchen;)V"⟩
abbrev cX1_behindGo : ByteArray := prog_3_method_5_code
def yX1_behindGo : MethodName := ⟨RX1, "behindGo", "(LBoxOnARope$Kitchen;I)I"⟩
abbrev cX1_kindOf : ByteArray := prog_3_method_6_code
def yX1_kindOf : MethodName := ⟨RX1, "kindOf", "(LBoxOnARope$Kitchen;I)LBoxOnARope$Plain;"⟩
abbrev cX1_serve : ByteArray := prog_3_method_7_code
def yX1_serve : MethodName := ⟨RX1, "serve", "(LBoxOnARope$Kitchen;I)V"⟩
abbrev cX1_sumUp : ByteArray := prog_3_method_8_code
def yX1_sumUp : MethodName := ⟨RX1, "sumUp", "(LBoxOnARope$Kitchen;)V"⟩
abbrev cX1_isHalved : ByteArray := prog_3_method_9_code
def yX1_isHalved : MethodName := ⟨RX1, "isHalved", "(LBoxOnARope$Kitchen;I)Z"⟩
def RX2 : String := "BoxOnARope$Gravy"
def TX2 : u_T := fun k => match k with
  | _ => ("", "", "", false)
def tyX2 : Nat → FieldType := fun k => match k with
  | _ => .int
abbrev wsX20 : List Cond := u_ws RX2 TX2 0
theorem nmX2 : ∀ a, a < 0 → ∀ b, b < 0 → a ≠ b → (TX2 a).2.1 ≠ (TX2 b).2.1 := by decide +kernel
theorem tyX2_ok : ∀ k, k < 0 → parseFieldDescriptor (TX2 k).2.2.1 = some (tyX2 k) := by decide +kernel
abbrev cX2_init : ByteArray := prog_4_method_1_code
def yX2_init : MethodName := ⟨RX2, "<init>", "()V"⟩
abbrev cX2_cooled : ByteArray := prog_4_method_2_code
def yX2_cooled : MethodName := ⟨RX2, "cooled", "(I)I"⟩
abbrev cX2_slopped : ByteArray := prog_4_method_3_code
def yX2_slopped : MethodName := ⟨RX2, "slopped", "(I)I"⟩
def RX3 : String := "BoxOnARope$Kitchen"
def TX3 : u_T := fun k => match k with
  | 0 => ("BoxOnARope$Kitchen", "dishes", "I", false)
  | 1 => ("BoxOnARope$Kitchen", "kind", "[I", true)
  | 2 => ("BoxOnARope$Kitchen", "weight", "[I", true)
  | 3 => ("BoxOnARope$Kitchen", "heat", "[I", true)
  | 4 => ("BoxOnARope$Kitchen", "plates", "[I", true)
  | 5 => ("BoxOnARope$Kitchen", "course", "[I", true)
  | 6 => ("BoxOnARope$Kitchen", "order", "[I", true)
  | 7 => ("BoxOnARope$Kitchen", "told", "[I", true)
  | _ => ("BoxOnARope$Kitchen", "box", "[I", true)
def tyX3 : Nat → FieldType := fun k => match k with
  | 0 => .int
  | 1 => .array .int
  | 2 => .array .int
  | 3 => .array .int
  | 4 => .array .int
  | 5 => .array .int
  | 6 => .array .int
  | 7 => .array .int
  | _ => .array .int
abbrev wsX30 : List Cond := u_ws RX3 TX3 9
theorem nmX3 : ∀ a, a < 9 → ∀ b, b < 9 → a ≠ b → (TX3 a).2.1 ≠ (TX3 b).2.1 := by decide +kernel
theorem tyX3_ok : ∀ k, k < 9 → parseFieldDescriptor (TX3 k).2.2.1 = some (tyX3 k) := by decide +kernel
abbrev cX3_init : ByteArray := prog_5_method_1_code
def yX3_init : MethodName := ⟨RX3, "<init>", "()V"⟩
abbrev cX3_takeOver : ByteArray := prog_5_method_2_code
def yX3_takeOver : MethodName := ⟨RX3, "takeOver", "(LBoxOnARope$Kitchen;)V"⟩
abbrev cX3_hasDish : ByteArray := prog_5_method_3_code
def yX3_hasDish : MethodName := ⟨RX3, "hasDish", "(I)Z"⟩
abbrev cX3_whereIs : ByteArray := prog_5_method_4_code
def yX3_whereIs : MethodName := ⟨RX3, "whereIs", "(I)I"⟩
abbrev cX3_swap : ByteArray := prog_5_method_5_code
def yX3_swap : MethodName := ⟨RX3, "swap", "(II)Z"⟩
abbrev cX3_addDish : ByteArray := prog_5_method_6_code
def yX3_addDish : MethodName := ⟨RX3, "addDish", "(IIIII)Z"⟩
abbrev cX3_putInBox : ByteArray := prog_5_method_7_code
def yX3_putInBox : MethodName := ⟨RX3, "putInBox", "(II)Z"⟩
abbrev cX3_putBegin : ByteArray := prog_5_method_8_code
def yX3_putBegin : MethodName := ⟨RX3, "putBegin", "(II)Z"⟩
abbrev cX3_beginOf : ByteArray := prog_5_method_9_code
def yX3_beginOf : MethodName := ⟨RX3, "beginOf", "(I)I"⟩
abbrev cX3_secondsWith : ByteArray := prog_5_method_10_code
def yX3_secondsWith : MethodName := ⟨RX3, "secondsWith", "(I)I"⟩
abbrev cX3_sumOf : ByteArray := prog_5_method_11_code
def yX3_sumOf : MethodName := ⟨RX3, "sumOf", "([I)I"⟩
def RX4 : String := "BoxOnARope$Lidded"
def TX4 : u_T := fun k => match k with
  | _ => ("", "", "", false)
def tyX4 : Nat → FieldType := fun k => match k with
  | _ => .int
abbrev wsX40 : List Cond := u_ws RX4 TX4 0
theorem nmX4 : ∀ a, a < 0 → ∀ b, b < 0 → a ≠ b → (TX4 a).2.1 ≠ (TX4 b).2.1 := by decide +kernel
theorem tyX4_ok : ∀ k, k < 0 → parseFieldDescriptor (TX4 k).2.2.1 = some (tyX4 k) := by decide +kernel
abbrev cX4_init : ByteArray := prog_6_method_1_code
def yX4_init : MethodName := ⟨RX4, "<init>", "()V"⟩
abbrev cX4_cooled : ByteArray := prog_6_method_2_code
def yX4_cooled : MethodName := ⟨RX4, "cooled", "(I)I"⟩
abbrev cX4_underLid : ByteArray := prog_6_method_3_code
def yX4_underLid : MethodName := ⟨RX4, "underLid", "(I)I"⟩
def RX5 : String := "BoxOnARope$Orders"
def TX5 : u_T := fun k => match k with
  | 0 => ("BoxOnARope$Orders", "line", "[I", true)
  | _ => ("BoxOnARope$Orders", "dishes", "I", false)
def tyX5 : Nat → FieldType := fun k => match k with
  | 0 => .array .int
  | _ => .int
abbrev wsX50 : List Cond := u_ws RX5 TX5 2
theorem nmX5 : ∀ a, a < 2 → ∀ b, b < 2 → a ≠ b → (TX5 a).2.1 ≠ (TX5 b).2.1 := by decide +kernel
theorem tyX5_ok : ∀ k, k < 2 → parseFieldDescriptor (TX5 k).2.2.1 = some (tyX5 k) := by decide +kernel
abbrev cX5_init : ByteArray := prog_7_method_1_code
def yX5_init : MethodName := ⟨RX5, "<init>", "()V"⟩
abbrev cX5_start : ByteArray := prog_7_method_2_code
def yX5_start : MethodName := ⟨RX5, "start", "(I)V"⟩
abbrev cX5_advance : ByteArray := prog_7_method_3_code
def yX5_advance : MethodName := ⟨RX5, "advance", "()Z"⟩
abbrev cX5_swapPlaces : ByteArray := prog_7_method_4_code
def yX5_swapPlaces : MethodName := ⟨RX5, "swapPlaces", "(II)V"⟩
def RX6 : String := "BoxOnARope$Plain"
def TX6 : u_T := fun k => match k with
  | _ => ("", "", "", false)
def tyX6 : Nat → FieldType := fun k => match k with
  | _ => .int
abbrev wsX60 : List Cond := u_ws RX6 TX6 0
theorem nmX6 : ∀ a, a < 0 → ∀ b, b < 0 → a ≠ b → (TX6 a).2.1 ≠ (TX6 b).2.1 := by decide +kernel
theorem tyX6_ok : ∀ k, k < 0 → parseFieldDescriptor (TX6 k).2.2.1 = some (tyX6 k) := by decide +kernel
abbrev cX6_init : ByteArray := prog_8_method_1_code
def yX6_init : MethodName := ⟨RX6, "<init>", "()V"⟩
abbrev cX6_cooled : ByteArray := prog_8_method_2_code
def yX6_cooled : MethodName := ⟨RX6, "cooled", "(I)I"⟩
abbrev cX6_slopped : ByteArray := prog_8_method_3_code
def yX6_slopped : MethodName := ⟨RX6, "slopped", "(I)I"⟩
abbrev cX6_isAlone : ByteArray := prog_8_method_4_code
def yX6_isAlone : MethodName := ⟨RX6, "isAlone", "()Z"⟩
def RX7 : String := "BoxOnARope$Roast"
def TX7 : u_T := fun k => match k with
  | _ => ("", "", "", false)
def tyX7 : Nat → FieldType := fun k => match k with
  | _ => .int
abbrev wsX70 : List Cond := u_ws RX7 TX7 0
theorem nmX7 : ∀ a, a < 0 → ∀ b, b < 0 → a ≠ b → (TX7 a).2.1 ≠ (TX7 b).2.1 := by decide +kernel
theorem tyX7_ok : ∀ k, k < 0 → parseFieldDescriptor (TX7 k).2.2.1 = some (tyX7 k) := by decide +kernel
abbrev cX7_init : ByteArray := prog_9_method_1_code
def yX7_init : MethodName := ⟨RX7, "<init>", "()V"⟩
abbrev cX7_cooled : ByteArray := prog_9_method_2_code
def yX7_cooled : MethodName := ⟨RX7, "cooled", "(I)I"⟩
abbrev cX7_isAlone : ByteArray := prog_9_method_3_code
def yX7_isAlone : MethodName := ⟨RX7, "isAlone", "()Z"⟩
def RX8 : String := "BoxOnARope$Soup"
def TX8 : u_T := fun k => match k with
  | _ => ("", "", "", false)
def tyX8 : Nat → FieldType := fun k => match k with
  | _ => .int
abbrev wsX80 : List Cond := u_ws RX8 TX8 0
theorem nmX8 : ∀ a, a < 0 → ∀ b, b < 0 → a ≠ b → (TX8 a).2.1 ≠ (TX8 b).2.1 := by decide +kernel
theorem tyX8_ok : ∀ k, k < 0 → parseFieldDescriptor (TX8 k).2.2.1 = some (tyX8 k) := by decide +kernel
abbrev cX8_init : ByteArray := prog_10_method_1_code
def yX8_init : MethodName := ⟨RX8, "<init>", "()V"⟩
abbrev cX8_slopped : ByteArray := prog_10_method_2_code
def yX8_slopped : MethodName := ⟨RX8, "slopped", "(I)I"⟩
def RX9 : String := "BoxOnARope$Telling"
def TX9 : u_T := fun k => match k with
  | 0 => ("BoxOnARope$Telling", "letters", "[I", true)
  | _ => ("BoxOnARope$Telling", "length", "I", false)
def tyX9 : Nat → FieldType := fun k => match k with
  | 0 => .array .int
  | _ => .int
abbrev wsX90 : List Cond := u_ws RX9 TX9 2
theorem nmX9 : ∀ a, a < 2 → ∀ b, b < 2 → a ≠ b → (TX9 a).2.1 ≠ (TX9 b).2.1 := by decide +kernel
theorem tyX9_ok : ∀ k, k < 2 → parseFieldDescriptor (TX9 k).2.2.1 = some (tyX9 k) := by decide +kernel
abbrev cX9_init : ByteArray := prog_11_method_1_code
def yX9_init : MethodName := ⟨RX9, "<init>", "()V"⟩
abbrev cX9_add : ByteArray := prog_11_method_2_code
def yX9_add : MethodName := ⟨RX9, "add", "(I)I"⟩
abbrev cX9_formOf : ByteArray := prog_11_method_3_code
def yX9_formOf : MethodName := ⟨RX9, "formOf", "(I)Ljava/lang/String;"⟩
abbrev cX9_suits : ByteArray := prog_11_method_4_code
def yX9_suits : MethodName := ⟨RX9, "suits", "(IC)Z"⟩
abbrev cX9_firstMisplaced : ByteArray := prog_11_method_5_code
def yX9_firstMisplaced : MethodName := ⟨RX9, "firstMisplaced", "()I"⟩
abbrev cX9_lengthFrom : ByteArray := prog_11_method_6_code
def yX9_lengthFrom : MethodName := ⟨RX9, "lengthFrom", "(I)I"⟩
abbrev cX9_letterAt : ByteArray := prog_11_method_7_code
def yX9_letterAt : MethodName := ⟨RX9, "letterAt", "(I)I"⟩
abbrev cX9_number : ByteArray := prog_11_method_8_code
def yX9_number : MethodName := ⟨RX9, "number", "(II)I"⟩
abbrev cX9_tellTo : ByteArray := prog_11_method_9_code
def yX9_tellTo : MethodName := ⟨RX9, "tellTo", "(LBoxOnARope$Kitchen;I)Z"⟩
def RX10 : String := "BoxOnARope"
def TX10 : u_T := fun k => match k with
  | 0 => ("BoxOnARope", "now", "LBoxOnARope$Kitchen;", true)
  | 1 => ("BoxOnARope", "trial", "LBoxOnARope$Kitchen;", true)
  | 2 => ("BoxOnARope", "kept", "LBoxOnARope$Kitchen;", true)
  | 3 => ("BoxOnARope", "hasKept", "Z", false)
  | 4 => ("BoxOnARope", "telling", "LBoxOnARope$Telling;", true)
  | 5 => ("BoxOnARope", "evening", "LBoxOnARope$Evening;", true)
  | 6 => ("BoxOnARope", "orders", "LBoxOnARope$Orders;", true)
  | 7 => ("BoxOnARope", "found", "[I", true)
  | 8 => ("BoxOnARope", "told", "[I", true)
  | 9 => ("BoxOnARope", "toldCount", "I", false)
  | _ => ("BoxOnARope", "refusals", "[I", true)
def tyX10 : Nat → FieldType := fun k => match k with
  | 0 => .object "BoxOnARope$Kitchen"
  | 1 => .object "BoxOnARope$Kitchen"
  | 2 => .object "BoxOnARope$Kitchen"
  | 3 => .boolean
  | 4 => .object "BoxOnARope$Telling"
  | 5 => .object "BoxOnARope$Evening"
  | 6 => .object "BoxOnARope$Orders"
  | 7 => .array .int
  | 8 => .array .int
  | 9 => .int
  | _ => .array .int
abbrev wsX100 : List Cond := u_ws RX10 TX10 11
theorem nmX10 : ∀ a, a < 11 → ∀ b, b < 11 → a ≠ b → (TX10 a).2.1 ≠ (TX10 b).2.1 := by decide +kernel
theorem tyX10_ok : ∀ k, k < 11 → parseFieldDescriptor (TX10 k).2.2.1 = some (tyX10 k) := by decide +kernel
abbrev cX10_init : ByteArray := prog_1_method_1_code
def yX10_init : MethodName := ⟨RX10, "<init>", "()V"⟩
abbrev cX10_letter : ByteArray := prog_1_method_2_code
def yX10_letter : MethodName := ⟨RX10, "letter", "(I)I"⟩
abbrev cX10_kitchen : ByteArray := prog_1_method_3_code
def yX10_kitchen : MethodName := ⟨RX10, "kitchen", "()I"⟩
abbrev cX10_dish : ByteArray := prog_1_method_4_code
def yX10_dish : MethodName := ⟨RX10, "dish", "(II)I"⟩
abbrev cX10_place : ByteArray := prog_1_method_5_code
def yX10_place : MethodName := ⟨RX10, "place", "(I)I"⟩
abbrev cX10_change : ByteArray := prog_1_method_6_code
def yX10_change : MethodName := ⟨RX10, "change", "(II)I"⟩
abbrev cX10_heat : ByteArray := prog_1_method_7_code
def yX10_heat : MethodName := ⟨RX10, "heat", "(II)I"⟩
abbrev cX10_begins : ByteArray := prog_1_method_8_code
def yX10_begins : MethodName := ⟨RX10, "begins", "(II)I"⟩
abbrev cX10_set : ByteArray := prog_1_method_9_code
def yX10_set : MethodName := ⟨RX10, "set", "(II)I"⟩
abbrev cX10_goes : ByteArray := prog_1_method_10_code
def yX10_goes : MethodName := ⟨RX10, "goes", "(I)I"⟩
abbrev cX10_total : ByteArray := prog_1_method_11_code
def yX10_total : MethodName := ⟨RX10, "total", "(I)I"⟩
abbrev cX10_of : ByteArray := prog_1_method_12_code
def yX10_of : MethodName := ⟨RX10, "of", "(II)I"⟩
abbrev cX10_best : ByteArray := prog_1_method_13_code
def yX10_best : MethodName := ⟨RX10, "best", "(I)I"⟩
abbrev cX10_bestAt : ByteArray := prog_1_method_14_code
def yX10_bestAt : MethodName := ⟨RX10, "bestAt", "(II)I"⟩
abbrev cX10_bestSet : ByteArray := prog_1_method_15_code
def yX10_bestSet : MethodName := ⟨RX10, "bestSet", "(I)I"⟩
abbrev cX10_roomMore : ByteArray := prog_1_method_16_code
def yX10_roomMore : MethodName := ⟨RX10, "roomMore", "()I"⟩
abbrev cX10_twoPull : ByteArray := prog_1_method_17_code
def yX10_twoPull : MethodName := ⟨RX10, "twoPull", "()I"⟩
abbrev cX10_stairs : ByteArray := prog_1_method_18_code
def yX10_stairs : MethodName := ⟨RX10, "stairs", "(I)I"⟩
abbrev cX10_forgotten : ByteArray := prog_1_method_19_code
def yX10_forgotten : MethodName := ⟨RX10, "forgotten", "(I)I"⟩
abbrev cX10_halved : ByteArray := prog_1_method_20_code
def yX10_halved : MethodName := ⟨RX10, "halved", "(I)I"⟩
abbrev cX10_heard : ByteArray := prog_1_method_21_code
def yX10_heard : MethodName := ⟨RX10, "heard", "(I)I"⟩
abbrev cX10_waits : ByteArray := prog_1_method_22_code
def yX10_waits : MethodName := ⟨RX10, "waits", "(I)I"⟩
abbrev cX10_send : ByteArray := prog_1_method_23_code
def yX10_send : MethodName := ⟨RX10, "send", "(I)I"⟩
abbrev cX10_row : ByteArray := prog_1_method_24_code
def yX10_row : MethodName := ⟨RX10, "row", "(I)I"⟩
abbrev cX10_fits : ByteArray := prog_1_method_25_code
def yX10_fits : MethodName := ⟨RX10, "fits", "(I)I"⟩
abbrev cX10_judge : ByteArray := prog_1_method_26_code
def yX10_judge : MethodName := ⟨RX10, "judge", "()I"⟩
abbrev cX10_lots : ByteArray := prog_1_method_27_code
def yX10_lots : MethodName := ⟨RX10, "lots", "(II)I"⟩
abbrev cX10_image : ByteArray := prog_1_method_28_code
def yX10_image : MethodName := ⟨RX10, "image", "()I"⟩
abbrev cX10_on : ByteArray := prog_1_method_29_code
def yX10_on : MethodName := ⟨RX10, "on", "()I"⟩
abbrev cX10_count : ByteArray := prog_1_method_30_code
def yX10_count : MethodName := ⟨RX10, "count", "(I)I"⟩
abbrev cX10_refuse : ByteArray := prog_1_method_31_code
def yX10_refuse : MethodName := ⟨RX10, "refuse", "(I)I"⟩
abbrev cX10_refuseAbove : ByteArray := prog_1_method_32_code
def yX10_refuseAbove : MethodName := ⟨RX10, "refuseAbove", "(I)I"⟩
abbrev cX10_isCourse : ByteArray := prog_1_method_33_code
def yX10_isCourse : MethodName := ⟨RX10, "isCourse", "(I)Z"⟩
abbrev cX10_isTotal : ByteArray := prog_1_method_34_code
def yX10_isTotal : MethodName := ⟨RX10, "isTotal", "(I)Z"⟩
abbrev cX10_becomeKitchen : ByteArray := prog_1_method_35_code
def yX10_becomeKitchen : MethodName := ⟨RX10, "becomeKitchen", "()I"⟩
abbrev cX10_lookAtNow : ByteArray := prog_1_method_36_code
def yX10_lookAtNow : MethodName := ⟨RX10, "lookAtNow", "()V"⟩
abbrev cX10_worthNow : ByteArray := prog_1_method_37_code
def yX10_worthNow : MethodName := ⟨RX10, "worthNow", "()I"⟩
abbrev cX10_worthWith : ByteArray := prog_1_method_38_code
def yX10_worthWith : MethodName := ⟨RX10, "worthWith", "(II)I"⟩
abbrev cX10_findBest : ByteArray := prog_1_method_39_code
def yX10_findBest : MethodName := ⟨RX10, "findBest", "(I)I"⟩
abbrev cX10_findFitting : ByteArray := prog_1_method_40_code
def yX10_findFitting : MethodName := ⟨RX10, "findFitting", "()I"⟩
abbrev cX10_firstNotSo : ByteArray := prog_1_method_41_code
def yX10_firstNotSo : MethodName := ⟨RX10, "firstNotSo", "([I)I"⟩
def RX11 : String := "BoxOnARopeModel"
def TX11 : u_T := fun k => match k with
  | 0 => ("BoxOnARopeModel", "dishes", "I", false)
  | 1 => ("BoxOnARopeModel", "kind", "[I", true)
  | 2 => ("BoxOnARopeModel", "weight", "[I", true)
  | 3 => ("BoxOnARopeModel", "heat", "[I", true)
  | 4 => ("BoxOnARopeModel", "plates", "[I", true)
  | 5 => ("BoxOnARopeModel", "course", "[I", true)
  | 6 => ("BoxOnARopeModel", "order", "[I", true)
  | 7 => ("BoxOnARopeModel", "set", "[I", true)
  | 8 => ("BoxOnARopeModel", "told", "[I", true)
  | 9 => ("BoxOnARopeModel", "letters", "I", false)
  | 10 => ("BoxOnARopeModel", "letter", "[I", true)
  | 11 => ("BoxOnARopeModel", "at", "I", false)
  | 12 => ("BoxOnARopeModel", "value", "[I", true)
  | 13 => ("BoxOnARopeModel", "inRow", "I", false)
  | 14 => ("BoxOnARopeModel", "row", "[I", true)
  | 15 => ("BoxOnARopeModel", "refusals", "[I", true)
  | 16 => ("BoxOnARopeModel", "imaged", "Z", false)
  | 17 => ("BoxOnARopeModel", "old", "[I", true)
  | 18 => ("BoxOnARopeModel", "ahead", "[I", true)
  | 19 => ("BoxOnARopeModel", "up", "[I", true)
  | 20 => ("BoxOnARopeModel", "go", "[I", true)
  | 21 => ("BoxOnARopeModel", "many", "I", false)
  | 22 => ("BoxOnARopeModel", "down", "I", false)
  | _ => ("BoxOnARopeModel", "best", "[I", true)
def tyX11 : Nat → FieldType := fun k => match k with
  | 0 => .int
  | 1 => .array .int
  | 2 => .array .int
  | 3 => .array .int
  | 4 => .array .int
  | 5 => .array .int
  | 6 => .array .int
  | 7 => .array .int
  | 8 => .array .int
  | 9 => .int
  | 10 => .array .int
  | 11 => .int
  | 12 => .array .int
  | 13 => .int
  | 14 => .array .int
  | 15 => .array .int
  | 16 => .boolean
  | 17 => .array .int
  | 18 => .array .int
  | 19 => .array .int
  | 20 => .array .int
  | 21 => .int
  | 22 => .int
  | _ => .array .int
abbrev wsX110 : List Cond := u_ws RX11 TX11 24
theorem nmX11 : ∀ a, a < 24 → ∀ b, b < 24 → a ≠ b → (TX11 a).2.1 ≠ (TX11 b).2.1 := by decide +kernel
theorem tyX11_ok : ∀ k, k < 24 → parseFieldDescriptor (TX11 k).2.2.1 = some (tyX11 k) := by decide +kernel
abbrev cX11_init : ByteArray := prog_13_method_1_code
def yX11_init : MethodName := ⟨RX11, "<init>", "()V"⟩
abbrev cX11_no : ByteArray := prog_13_method_2_code
def yX11_no : MethodName := ⟨RX11, "no", "(I)I"⟩
abbrev cX11_noMuch : ByteArray := prog_13_method_3_code
def yX11_noMuch : MethodName := ⟨RX11, "noMuch", "(I)I"⟩
abbrev cX11_within : ByteArray := prog_13_method_4_code
def yX11_within : MethodName := ⟨RX11, "within", "(III)Z"⟩
abbrev cX11_isDish : ByteArray := prog_13_method_5_code
def yX11_isDish : MethodName := ⟨RX11, "isDish", "(I)Z"⟩
abbrev cX11_leastOf : ByteArray := prog_13_method_6_code
def yX11_leastOf : MethodName := ⟨RX11, "leastOf", "(I)I"⟩
abbrev cX11_mostOf : ByteArray := prog_13_method_7_code
def yX11_mostOf : MethodName := ⟨RX11, "mostOf", "(I)I"⟩
abbrev cX11_letter : ByteArray := prog_13_method_8_code
def yX11_letter : MethodName := ⟨RX11, "letter", "(I)I"⟩
abbrev cX11_is : ByteArray := prog_13_method_9_code
def yX11_is : MethodName := ⟨RX11, "is", "(I)Z"⟩
abbrev cX11_digits : ByteArray := prog_13_method_10_code
def yX11_digits : MethodName := ⟨RX11, "digits", "(I)Z"⟩
abbrev cX11_two : ByteArray := prog_13_method_11_code
def yX11_two : MethodName := ⟨RX11, "two", "(I)I"⟩
abbrev cX11_statement : ByteArray := prog_13_method_12_code
def yX11_statement : MethodName := ⟨RX11, "statement", "(Z)I"⟩
abbrev cX11_kitchen : ByteArray := prog_13_method_13_code
def yX11_kitchen : MethodName := ⟨RX11, "kitchen", "()I"⟩
abbrev cX11_placeOf : ByteArray := prog_13_method_14_code
def yX11_placeOf : MethodName := ⟨RX11, "placeOf", "(I)I"⟩
abbrev cX11_swap : ByteArray := prog_13_method_15_code
def yX11_swap : MethodName := ⟨RX11, "swap", "(II)V"⟩
abbrev cX11_dish : ByteArray := prog_13_method_16_code
def yX11_dish : MethodName := ⟨RX11, "dish", "(II)I"⟩
abbrev cX11_place : ByteArray := prog_13_method_17_code
def yX11_place : MethodName := ⟨RX11, "place", "(I)I"⟩
abbrev cX11_change : ByteArray := prog_13_method_18_code
def yX11_change : MethodName := ⟨RX11, "change", "(II)I"⟩
abbrev cX11_heat : ByteArray := prog_13_method_19_code
def yX11_heat : MethodName := ⟨RX11, "heat", "(II)I"⟩
abbrev cX11_begins : ByteArray := prog_13_method_20_code
def yX11_begins : MethodName := ⟨RX11, "begins", "(II)I"⟩
abbrev cX11_set : ByteArray := prog_13_method_21_code
def yX11_set : MethodName := ⟨RX11, "set", "(II)I"⟩
abbrev cX11_seconds : ByteArray := prog_13_method_22_code
def yX11_seconds : MethodName := ⟨RX11, "seconds", "(I)I"⟩
abbrev cX11_goes : ByteArray := prog_13_method_23_code
def yX11_goes : MethodName := ⟨RX11, "goes", "(I)I"⟩
abbrev cX11_run : ByteArray := prog_13_method_24_code
def yX11_run : MethodName := ⟨RX11, "run", "(I)V"⟩
abbrev cX11_begin : ByteArray := prog_13_method_25_code
def yX11_begin : MethodName := ⟨RX11, "begin", "(I)I"⟩
abbrev cX11_servedOf : ByteArray := prog_13_method_26_code
def yX11_servedOf : MethodName := ⟨RX11, "servedOf", "(I)I"⟩
abbrev cX11_cools : ByteArray := prog_13_method_27_code
def yX11_cools : MethodName := ⟨RX11, "cools", "(II)I"⟩
abbrev cX11_slops : ByteArray := prog_13_method_28_code
def yX11_slops : MethodName := ⟨RX11, "slops", "(I)I"⟩
abbrev cX11_warmOf : ByteArray := prog_13_method_29_code
def yX11_warmOf : MethodName := ⟨RX11, "warmOf", "(I)I"⟩
abbrev cX11_lateOf : ByteArray := prog_13_method_30_code
def yX11_lateOf : MethodName := ⟨RX11, "lateOf", "(I)I"⟩
abbrev cX11_stoodOf : ByteArray := prog_13_method_31_code
def yX11_stoodOf : MethodName := ⟨RX11, "stoodOf", "(I)I"⟩
abbrev cX11_totalOf : ByteArray := prog_13_method_32_code
def yX11_totalOf : MethodName := ⟨RX11, "totalOf", "(I)I"⟩
abbrev cX11_worth : ByteArray := prog_13_method_33_code
def yX11_worth : MethodName := ⟨RX11, "worth", "()I"⟩
abbrev cX11_total : ByteArray := prog_13_method_34_code
def yX11_total : MethodName := ⟨RX11, "total", "(I)I"⟩
abbrev cX11_of : ByteArray := prog_13_method_35_code
def yX11_of : MethodName := ⟨RX11, "of", "(II)I"⟩
abbrev cX11_next : ByteArray := prog_13_method_36_code
def yX11_next : MethodName := ⟨RX11, "next", "()Z"⟩
abbrev cX11_begin_ : ByteArray := prog_13_method_37_code
def yX11_begin_ : MethodName := ⟨RX11, "begin", "()V"⟩
abbrev cX11_bestOf : ByteArray := prog_13_method_38_code
def yX11_bestOf : MethodName := ⟨RX11, "bestOf", "(I)I"⟩
abbrev cX11_best : ByteArray := prog_13_method_39_code
def yX11_best : MethodName := ⟨RX11, "best", "(I)I"⟩
abbrev cX11_bestAt : ByteArray := prog_13_method_40_code
def yX11_bestAt : MethodName := ⟨RX11, "bestAt", "(II)I"⟩
abbrev cX11_bestSet : ByteArray := prog_13_method_41_code
def yX11_bestSet : MethodName := ⟨RX11, "bestSet", "(I)I"⟩
abbrev cX11_more : ByteArray := prog_13_method_42_code
def yX11_more : MethodName := ⟨RX11, "more", "(II)I"⟩
abbrev cX11_roomMore : ByteArray := prog_13_method_43_code
def yX11_roomMore : MethodName := ⟨RX11, "roomMore", "()I"⟩
abbrev cX11_twoPull : ByteArray := prog_13_method_44_code
def yX11_twoPull : MethodName := ⟨RX11, "twoPull", "()I"⟩
abbrev cX11_stairs : ByteArray := prog_13_method_45_code
def yX11_stairs : MethodName := ⟨RX11, "stairs", "(I)I"⟩
abbrev cX11_forgotten : ByteArray := prog_13_method_46_code
def yX11_forgotten : MethodName := ⟨RX11, "forgotten", "(I)I"⟩
abbrev cX11_isHalved : ByteArray := prog_13_method_47_code
def yX11_isHalved : MethodName := ⟨RX11, "isHalved", "(I)Z"⟩
abbrev cX11_halved : ByteArray := prog_13_method_48_code
def yX11_halved : MethodName := ⟨RX11, "halved", "(I)I"⟩
abbrev cX11_heard : ByteArray := prog_13_method_49_code
def yX11_heard : MethodName := ⟨RX11, "heard", "(I)I"⟩
abbrev cX11_waits : ByteArray := prog_13_method_50_code
def yX11_waits : MethodName := ⟨RX11, "waits", "(I)I"⟩
abbrev cX11_stands : ByteArray := prog_13_method_51_code
def yX11_stands : MethodName := ⟨RX11, "stands", "(I)I"⟩
abbrev cX11_send : ByteArray := prog_13_method_52_code
def yX11_send : MethodName := ⟨RX11, "send", "(I)I"⟩
abbrev cX11_row : ByteArray := prog_13_method_53_code
def yX11_row : MethodName := ⟨RX11, "row", "(I)I"⟩
abbrev cX11_wrong : ByteArray := prog_13_method_54_code
def yX11_wrong : MethodName := ⟨RX11, "wrong", "()I"⟩
abbrev cX11_fits : ByteArray := prog_13_method_55_code
def yX11_fits : MethodName := ⟨RX11, "fits", "(I)I"⟩
abbrev cX11_judge : ByteArray := prog_13_method_56_code
def yX11_judge : MethodName := ⟨RX11, "judge", "()I"⟩
abbrev cX11_lots : ByteArray := prog_13_method_57_code
def yX11_lots : MethodName := ⟨RX11, "lots", "(II)I"⟩
abbrev cX11_keep : ByteArray := prog_13_method_58_code
def yX11_keep : MethodName := ⟨RX11, "keep", "([I)V"⟩
abbrev cX11_again : ByteArray := prog_13_method_59_code
def yX11_again : MethodName := ⟨RX11, "again", "([I)V"⟩
abbrev cX11_image : ByteArray := prog_13_method_60_code
def yX11_image : MethodName := ⟨RX11, "image", "()I"⟩
abbrev cX11_on : ByteArray := prog_13_method_61_code
def yX11_on : MethodName := ⟨RX11, "on", "()I"⟩
abbrev cX11_count : ByteArray := prog_13_method_62_code
def yX11_count : MethodName := ⟨RX11, "count", "(I)I"⟩
def RJ11 : String := "java/lang/Character"
def TJ11 : u_T := fun k => match k with
  | _ => ("", "", "", false)
def tyJ11 : Nat → FieldType := fun k => match k with
  | _ => .int
abbrev wsJ110 : List Cond := u_ws RJ11 TJ11 0
theorem nmJ11 : ∀ a, a < 0 → ∀ b, b < 0 → a ≠ b → (TJ11 a).2.1 ≠ (TJ11 b).2.1 := by decide +kernel
theorem tyJ11_ok : ∀ k, k < 0 → parseFieldDescriptor (TJ11 k).2.2.1 = some (tyJ11 k) := by decide +kernel
abbrev cJ11_isValidCodePoint_9a6ad : ByteArray := prog_14_method_11_code
def yJ11_isValidCodePoint_9a6ad : MethodName := ⟨RJ11, "isValidCodePoint", "(I)Z"⟩
abbrev cJ11_highSurrogate_5068e : ByteArray := prog_14_method_28_code
def yJ11_highSurrogate_5068e : MethodName := ⟨RJ11, "highSurrogate", "(I)C"⟩
abbrev cJ11_lowSurrogate_5068e : ByteArray := prog_14_method_29_code
def yJ11_lowSurrogate_5068e : MethodName := ⟨RJ11, "lowSurrogate", "(I)C"⟩
def RJ9 : String := "java/lang/Math"
def TJ9 : u_T := fun k => match k with
  | _ => ("", "", "", false)
def tyJ9 : Nat → FieldType := fun k => match k with
  | _ => .int
abbrev wsJ90 : List Cond := u_ws RJ9 TJ9 0
theorem nmJ9 : ∀ a, a < 0 → ∀ b, b < 0 → a ≠ b → (TJ9 a).2.1 ≠ (TJ9 b).2.1 := by decide +kernel
theorem tyJ9_ok : ∀ k, k < 0 → parseFieldDescriptor (TJ9 k).2.2.1 = some (tyJ9 k) := by decide +kernel
abbrev cJ9_abs_0f7a4 : ByteArray := prog_15_method_59_code
def yJ9_abs_0f7a4 : MethodName := ⟨RJ9, "abs", "(I)I"⟩
abbrev cJ9_max_7cf53 : ByteArray := prog_15_method_65_code
def yJ9_max_7cf53 : MethodName := ⟨RJ9, "max", "(II)I"⟩
abbrev cJ9_min_7cf53 : ByteArray := prog_15_method_69_code
def yJ9_min_7cf53 : MethodName := ⟨RJ9, "min", "(II)I"⟩
def RJ0 : String := "java/lang/String"
def TJ0 : u_T := fun k => match k with
  | _ => ("", "", "", false)
def tyJ0 : Nat → FieldType := fun k => match k with
  | _ => .int
abbrev wsJ00 : List Cond := u_ws RJ0 TJ0 0
theorem nmJ0 : ∀ a, a < 0 → ∀ b, b < 0 → a ≠ b → (TJ0 a).2.1 ≠ (TJ0 b).2.1 := by decide +kernel
theorem tyJ0_ok : ∀ k, k < 0 → parseFieldDescriptor (TJ0 k).2.2.1 = some (tyJ0 k) := by decide +kernel
abbrev cJ0_length_8abf5 : ByteArray := prog_16_method_54_code
def yJ0_length_8abf5 : MethodName := ⟨RJ0, "length", "()I"⟩
abbrev cJ0_isEmpty_aae02 : ByteArray := prog_16_method_55_code
def yJ0_isEmpty_aae02 : MethodName := ⟨RJ0, "isEmpty", "()Z"⟩
abbrev cJ0_charAt_5068e : ByteArray := prog_16_method_56_code
def yJ0_charAt_5068e : MethodName := ⟨RJ0, "charAt", "(I)C"⟩
abbrev cJ0_indexOf_0f7a4 : ByteArray := prog_16_method_79_code
def yJ0_indexOf_0f7a4 : MethodName := ⟨RJ0, "indexOf", "(I)I"⟩
abbrev cJ0_indexOf_7cf53 : ByteArray := prog_16_method_80_code
def yJ0_indexOf_7cf53 : MethodName := ⟨RJ0, "indexOf", "(II)I"⟩
abbrev cJ0_coder_7d493 : ByteArray := prog_16_method_152_code
def yJ0_coder_7d493 : MethodName := ⟨RJ0, "coder", "()B"⟩
abbrev cJ0_isLatin1_aae02 : ByteArray := prog_16_method_154_code
def yJ0_isLatin1_aae02 : MethodName := ⟨RJ0, "isLatin1", "()Z"⟩
abbrev cJ0_checkIndex_df160 : ByteArray := prog_16_method_155_code
def yJ0_checkIndex_df160 : MethodName := ⟨RJ0, "checkIndex", "(II)V"⟩
abbrev cJ0_checkBoundsBeginEnd_23922 : ByteArray := prog_16_method_158_code
def yJ0_checkBoundsBeginEnd_23922 : MethodName := ⟨RJ0, "checkBoundsBeginEnd", "(III)V"⟩
def RJ1 : String := "java/lang/StringLatin1"
def TJ1 : u_T := fun k => match k with
  | _ => ("", "", "", false)
def tyJ1 : Nat → FieldType := fun k => match k with
  | _ => .int
abbrev wsJ10 : List Cond := u_ws RJ1 TJ1 0
theorem nmJ1 : ∀ a, a < 0 → ∀ b, b < 0 → a ≠ b → (TJ1 a).2.1 ≠ (TJ1 b).2.1 := by decide +kernel
theorem tyJ1_ok : ∀ k, k < 0 → parseFieldDescriptor (TJ1 k).2.2.1 = some (tyJ1 k) := by decide +kernel
abbrev cJ1_charAt_3b067 : ByteArray := prog_17_method_2_code
def yJ1_charAt_3b067 : MethodName := ⟨RJ1, "charAt", "([BI)C"⟩
abbrev cJ1_canEncode_9a6ad : ByteArray := prog_17_method_4_code
def yJ1_canEncode_9a6ad : MethodName := ⟨RJ1, "canEncode", "(I)Z"⟩
abbrev cJ1_indexOf_4cfef : ByteArray := prog_17_method_22_code
def yJ1_indexOf_4cfef : MethodName := ⟨RJ1, "indexOf", "([BIII)I"⟩
abbrev cJ1_indexOfChar_4cfef : ByteArray := prog_17_method_23_code
def yJ1_indexOfChar_4cfef : MethodName := ⟨RJ1, "indexOfChar", "([BIII)I"⟩
def RJ2 : String := "java/lang/StringUTF16"
def TJ2 : u_T := fun k => match k with
  | _ => ("", "", "", false)
def tyJ2 : Nat → FieldType := fun k => match k with
  | _ => .int
abbrev wsJ20 : List Cond := u_ws RJ2 TJ2 0
theorem nmJ2 : ∀ a, a < 0 → ∀ b, b < 0 → a ≠ b → (TJ2 a).2.1 ≠ (TJ2 b).2.1 := by decide +kernel
theorem tyJ2_ok : ∀ k, k < 0 → parseFieldDescriptor (TJ2 k).2.2.1 = some (tyJ2 k) := by decide +kernel
abbrev cJ2_getChar_3b067 : ByteArray := prog_18_method_5_code
def yJ2_getChar_3b067 : MethodName := ⟨RJ2, "getChar", "([BI)C"⟩
abbrev cJ2_length_9d52b : ByteArray := prog_18_method_6_code
def yJ2_length_9d52b : MethodName := ⟨RJ2, "length", "([B)I"⟩
abbrev cJ2_indexOf_4cfef : ByteArray := prog_18_method_40_code
def yJ2_indexOf_4cfef : MethodName := ⟨RJ2, "indexOf", "([BIII)I"⟩
abbrev cJ2_indexOfChar_4cfef : ByteArray := prog_18_method_47_code
def yJ2_indexOfChar_4cfef : MethodName := ⟨RJ2, "indexOfChar", "([BIII)I"⟩
abbrev cJ2_indexOfCharUnsafe_4cfef : ByteArray := prog_18_method_48_code
def yJ2_indexOfCharUnsafe_4cfef : MethodName := ⟨RJ2, "indexOfCharUnsafe", "([BIII)I"⟩
abbrev cJ2_indexOfSupplementary_4cfef : ByteArray := prog_18_method_49_code
def yJ2_indexOfSupplementary_4cfef : MethodName := ⟨RJ2, "indexOfSupplementary", "([BIII)I"⟩
abbrev cJ2_charAt_3b067 : ByteArray := prog_18_method_83_code
def yJ2_charAt_3b067 : MethodName := ⟨RJ2, "charAt", "([BI)C"⟩
abbrev cJ2_checkIndex_2214a : ByteArray := prog_18_method_91_code
def yJ2_checkIndex_2214a : MethodName := ⟨RJ2, "checkIndex", "(I[B)V"⟩
abbrev cJ2_checkBoundsBeginEnd_d044e : ByteArray := prog_18_method_93_code
def yJ2_checkBoundsBeginEnd_d044e : MethodName := ⟨RJ2, "checkBoundsBeginEnd", "(II[B)V"⟩
def RJ10 : String := "java/lang/System"
def TJ10 : u_T := fun k => match k with
  | _ => ("", "", "", false)
def tyJ10 : Nat → FieldType := fun k => match k with
  | _ => .int
abbrev wsJ100 : List Cond := u_ws RJ10 TJ10 0
theorem nmJ10 : ∀ a, a < 0 → ∀ b, b < 0 → a ≠ b → (TJ10 a).2.1 ≠ (TJ10 b).2.1 := by decide +kernel
theorem tyJ10_ok : ∀ k, k < 0 → parseFieldDescriptor (TJ10 k).2.2.1 = some (tyJ10 k) := by decide +kernel
def RJ3 : String := "jdk/internal/util/Preconditions"
def TJ3 : u_T := fun k => match k with
  | _ => ("", "", "", false)
def tyJ3 : Nat → FieldType := fun k => match k with
  | _ => .int
abbrev wsJ30 : List Cond := u_ws RJ3 TJ3 0
theorem nmJ3 : ∀ a, a < 0 → ∀ b, b < 0 → a ≠ b → (TJ3 a).2.1 ≠ (TJ3 b).2.1 := by decide +kernel
theorem tyJ3_ok : ∀ k, k < 0 → parseFieldDescriptor (TJ3 k).2.2.1 = some (tyJ3 k) := by decide +kernel
abbrev cJ3_checkIndex_8e157 : ByteArray := prog_20_method_11_code
def yJ3_checkIndex_8e157 : MethodName := ⟨RJ3, "checkIndex", "(IILjava/util/function/BiFunction;)I"⟩
abbrev cJ3_checkFromToIndex_8c36e : ByteArray := prog_20_method_12_code
def yJ3_checkFromToIndex_8c36e : MethodName := ⟨RJ3, "checkFromToIndex", "(IIILjava/util/function/BiFunction;)I"⟩
def RL : String := "BoxOnARopeLaw"
abbrev cL_law : ByteArray := code
def yL_law : MethodName := ⟨RL, "law", "([I)Z"⟩
abbrev vwCl : List vw_C := [(RX0, TX0, 0), (RX1, TX1, 11), (RX2, TX2, 0), (RX3, TX3, 9), (RX4, TX4, 0), (RX5, TX5, 2), (RX6, TX6, 0), (RX7, TX7, 0), (RX8, TX8, 0), (RX9, TX9, 2), (RX10, TX10, 11), (RX11, TX11, 24)]
