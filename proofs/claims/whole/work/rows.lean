section
-- ===== PART A: goes FIRST, ahead of the names: the tables' words, and 'selects' of the private methods out of them =====
/-- a private method of a class that the tables say can be made, by its rows of tables_1 -/
def lw_okq (q : MethodName × Nat) : Prop := (q.1.cls ≠ "java/lang/invoke/MethodHandle" ∧ q.1.cls ≠ "java/lang/invoke/VarHandle") ∧ Cond.instantiable q.1.cls q.2 ∈ tables_1 ∧ Cond.privateMethod q.1 ∈ tables_1 ∧ Cond.instanceMethod q.1 ∈ tables_1
theorem lw_p0 : lw_okq (⟨"BoxOnARope", "refuse", "(I)I"⟩, 11) := ⟨⟨by decide +kernel, by decide +kernel⟩, List.mem_of_getElem? (i := 21) (by decide +kernel), List.mem_of_getElem? (i := 237) (by decide +kernel), List.mem_of_getElem? (i := 238) (by decide +kernel)⟩
theorem lw_p1 : lw_okq (⟨"BoxOnARope", "becomeKitchen", "()I"⟩, 11) := ⟨⟨by decide +kernel, by decide +kernel⟩, List.mem_of_getElem? (i := 21) (by decide +kernel), List.mem_of_getElem? (i := 249) (by decide +kernel), List.mem_of_getElem? (i := 250) (by decide +kernel)⟩
theorem lw_p2 : lw_okq (⟨"BoxOnARope$Telling", "letterAt", "(I)I"⟩, 2) := ⟨⟨by decide +kernel, by decide +kernel⟩, List.mem_of_getElem? (i := 80) (by decide +kernel), List.mem_of_getElem? (i := 392) (by decide +kernel), List.mem_of_getElem? (i := 393) (by decide +kernel)⟩
theorem lw_p3 : lw_okq (⟨"BoxOnARope$Telling", "number", "(II)I"⟩, 2) := ⟨⟨by decide +kernel, by decide +kernel⟩, List.mem_of_getElem? (i := 80) (by decide +kernel), List.mem_of_getElem? (i := 396) (by decide +kernel), List.mem_of_getElem? (i := 397) (by decide +kernel)⟩
theorem lw_p4 : lw_okq (⟨"BoxOnARope", "refuseAbove", "(I)I"⟩, 11) := ⟨⟨by decide +kernel, by decide +kernel⟩, List.mem_of_getElem? (i := 21) (by decide +kernel), List.mem_of_getElem? (i := 484) (by decide +kernel), List.mem_of_getElem? (i := 485) (by decide +kernel)⟩
theorem lw_p5 : lw_okq (⟨"BoxOnARope", "lookAtNow", "()V"⟩, 11) := ⟨⟨by decide +kernel, by decide +kernel⟩, List.mem_of_getElem? (i := 21) (by decide +kernel), List.mem_of_getElem? (i := 489) (by decide +kernel), List.mem_of_getElem? (i := 490) (by decide +kernel)⟩
theorem lw_p6 : lw_okq (⟨"BoxOnARope$Evening", "lineUp", "(LBoxOnARope$Kitchen;[II)V"⟩, 11) := ⟨⟨by decide +kernel, by decide +kernel⟩, List.mem_of_getElem? (i := 94) (by decide +kernel), List.mem_of_getElem? (i := 497) (by decide +kernel), List.mem_of_getElem? (i := 498) (by decide +kernel)⟩
theorem lw_p7 : lw_okq (⟨"BoxOnARope$Evening", "carryAll", "(LBoxOnARope$Kitchen;)V"⟩, 11) := ⟨⟨by decide +kernel, by decide +kernel⟩, List.mem_of_getElem? (i := 94) (by decide +kernel), List.mem_of_getElem? (i := 501) (by decide +kernel), List.mem_of_getElem? (i := 502) (by decide +kernel)⟩
theorem lw_p8 : lw_okq (⟨"BoxOnARope$Evening", "behindGo", "(LBoxOnARope$Kitchen;I)I"⟩, 11) := ⟨⟨by decide +kernel, by decide +kernel⟩, List.mem_of_getElem? (i := 94) (by decide +kernel), List.mem_of_getElem? (i := 505) (by decide +kernel), List.mem_of_getElem? (i := 506) (by decide +kernel)⟩
theorem lw_p9 : lw_okq (⟨"BoxOnARope$Evening", "kindOf", "(LBoxOnARope$Kitchen;I)LBoxOnARope$Plain;"⟩, 11) := ⟨⟨by decide +kernel, by decide +kernel⟩, List.mem_of_getElem? (i := 94) (by decide +kernel), List.mem_of_getElem? (i := 509) (by decide +kernel), List.mem_of_getElem? (i := 510) (by decide +kernel)⟩
theorem lw_p10 : lw_okq (⟨"BoxOnARope$Evening", "serve", "(LBoxOnARope$Kitchen;I)V"⟩, 11) := ⟨⟨by decide +kernel, by decide +kernel⟩, List.mem_of_getElem? (i := 94) (by decide +kernel), List.mem_of_getElem? (i := 527) (by decide +kernel), List.mem_of_getElem? (i := 528) (by decide +kernel)⟩
theorem lw_p11 : lw_okq (⟨"BoxOnARope$Evening", "sumUp", "(LBoxOnARope$Kitchen;)V"⟩, 11) := ⟨⟨by decide +kernel, by decide +kernel⟩, List.mem_of_getElem? (i := 94) (by decide +kernel), List.mem_of_getElem? (i := 578) (by decide +kernel), List.mem_of_getElem? (i := 579) (by decide +kernel)⟩
theorem lw_p12 : lw_okq (⟨"BoxOnARope", "findBest", "(I)I"⟩, 11) := ⟨⟨by decide +kernel, by decide +kernel⟩, List.mem_of_getElem? (i := 21) (by decide +kernel), List.mem_of_getElem? (i := 594) (by decide +kernel), List.mem_of_getElem? (i := 595) (by decide +kernel)⟩
theorem lw_p13 : lw_okq (⟨"BoxOnARope$Orders", "swapPlaces", "(II)V"⟩, 2) := ⟨⟨by decide +kernel, by decide +kernel⟩, List.mem_of_getElem? (i := 185) (by decide +kernel), List.mem_of_getElem? (i := 607) (by decide +kernel), List.mem_of_getElem? (i := 608) (by decide +kernel)⟩
theorem lw_p14 : lw_okq (⟨"BoxOnARope", "worthWith", "(II)I"⟩, 11) := ⟨⟨by decide +kernel, by decide +kernel⟩, List.mem_of_getElem? (i := 21) (by decide +kernel), List.mem_of_getElem? (i := 619) (by decide +kernel), List.mem_of_getElem? (i := 620) (by decide +kernel)⟩
theorem lw_p15 : lw_okq (⟨"BoxOnARope", "worthNow", "()I"⟩, 11) := ⟨⟨by decide +kernel, by decide +kernel⟩, List.mem_of_getElem? (i := 21) (by decide +kernel), List.mem_of_getElem? (i := 627) (by decide +kernel), List.mem_of_getElem? (i := 628) (by decide +kernel)⟩
def lw_privs_1 : List (MethodName × Nat) := [(⟨"BoxOnARope", "refuse", "(I)I"⟩, 11), (⟨"BoxOnARope", "becomeKitchen", "()I"⟩, 11), (⟨"BoxOnARope$Telling", "letterAt", "(I)I"⟩, 2), (⟨"BoxOnARope$Telling", "number", "(II)I"⟩, 2), (⟨"BoxOnARope", "refuseAbove", "(I)I"⟩, 11), (⟨"BoxOnARope", "lookAtNow", "()V"⟩, 11), (⟨"BoxOnARope$Evening", "lineUp", "(LBoxOnARope$Kitchen;[II)V"⟩, 11), (⟨"BoxOnARope$Evening", "carryAll", "(LBoxOnARope$Kitchen;)V"⟩, 11), (⟨"BoxOnARope$Evening", "behindGo", "(LBoxOnARope$Kitchen;I)I"⟩, 11), (⟨"BoxOnARope$Evening", "kindOf", "(LBoxOnARope$Kitchen;I)LBoxOnARope$Plain;"⟩, 11), (⟨"BoxOnARope$Evening", "serve", "(LBoxOnARope$Kitchen;I)V"⟩, 11), (⟨"BoxOnARope$Evening", "sumUp", "(LBoxOnARope$Kitchen;)V"⟩, 11), (⟨"BoxOnARope", "findBest", "(I)I"⟩, 11), (⟨"BoxOnARope$Orders", "swapPlaces", "(II)V"⟩, 2), (⟨"BoxOnARope", "worthWith", "(II)I"⟩, 11), (⟨"BoxOnARope", "worthNow", "()I"⟩, 11)]
theorem lw_r1 : ∀ q ∈ lw_privs_1, lw_okq q := List.forall_mem_cons.mpr ⟨lw_p0, List.forall_mem_cons.mpr ⟨lw_p1, List.forall_mem_cons.mpr ⟨lw_p2, List.forall_mem_cons.mpr ⟨lw_p3, List.forall_mem_cons.mpr ⟨lw_p4, List.forall_mem_cons.mpr ⟨lw_p5, List.forall_mem_cons.mpr ⟨lw_p6, List.forall_mem_cons.mpr ⟨lw_p7, List.forall_mem_cons.mpr ⟨lw_p8, List.forall_mem_cons.mpr ⟨lw_p9, List.forall_mem_cons.mpr ⟨lw_p10, List.forall_mem_cons.mpr ⟨lw_p11, List.forall_mem_cons.mpr ⟨lw_p12, List.forall_mem_cons.mpr ⟨lw_p13, List.forall_mem_cons.mpr ⟨lw_p14, List.forall_mem_cons.mpr ⟨lw_p15, fun _ h => absurd h List.not_mem_nil⟩⟩⟩⟩⟩⟩⟩⟩⟩⟩⟩⟩⟩⟩⟩⟩
theorem lw_p16 : lw_okq (⟨"BoxOnARope", "findFitting", "()I"⟩, 11) := ⟨⟨by decide +kernel, by decide +kernel⟩, List.mem_of_getElem? (i := 21) (by decide +kernel), List.mem_of_getElem? (i := 674) (by decide +kernel), List.mem_of_getElem? (i := 675) (by decide +kernel)⟩
theorem lw_p17 : lw_okq (⟨"BoxOnARope", "firstNotSo", "([I)I"⟩, 11) := ⟨⟨by decide +kernel, by decide +kernel⟩, List.mem_of_getElem? (i := 21) (by decide +kernel), List.mem_of_getElem? (i := 678) (by decide +kernel), List.mem_of_getElem? (i := 679) (by decide +kernel)⟩
theorem lw_p18 : lw_okq (⟨"BoxOnARopeModel", "no", "(I)I"⟩, 24) := ⟨⟨by decide +kernel, by decide +kernel⟩, List.mem_of_getElem? (i := 706) (by decide +kernel), List.mem_of_getElem? (i := 789) (by decide +kernel), List.mem_of_getElem? (i := 790) (by decide +kernel)⟩
theorem lw_p19 : lw_okq (⟨"BoxOnARopeModel", "statement", "(Z)I"⟩, 24) := ⟨⟨by decide +kernel, by decide +kernel⟩, List.mem_of_getElem? (i := 706) (by decide +kernel), List.mem_of_getElem? (i := 797) (by decide +kernel), List.mem_of_getElem? (i := 798) (by decide +kernel)⟩
theorem lw_p20 : lw_okq (⟨"BoxOnARopeModel", "is", "(I)Z"⟩, 24) := ⟨⟨by decide +kernel, by decide +kernel⟩, List.mem_of_getElem? (i := 706) (by decide +kernel), List.mem_of_getElem? (i := 801) (by decide +kernel), List.mem_of_getElem? (i := 802) (by decide +kernel)⟩
theorem lw_p21 : lw_okq (⟨"BoxOnARopeModel", "digits", "(I)Z"⟩, 24) := ⟨⟨by decide +kernel, by decide +kernel⟩, List.mem_of_getElem? (i := 706) (by decide +kernel), List.mem_of_getElem? (i := 807) (by decide +kernel), List.mem_of_getElem? (i := 808) (by decide +kernel)⟩
theorem lw_p22 : lw_okq (⟨"BoxOnARopeModel", "two", "(I)I"⟩, 24) := ⟨⟨by decide +kernel, by decide +kernel⟩, List.mem_of_getElem? (i := 706) (by decide +kernel), List.mem_of_getElem? (i := 814) (by decide +kernel), List.mem_of_getElem? (i := 815) (by decide +kernel)⟩
theorem lw_p23 : lw_okq (⟨"BoxOnARopeModel", "isDish", "(I)Z"⟩, 24) := ⟨⟨by decide +kernel, by decide +kernel⟩, List.mem_of_getElem? (i := 706) (by decide +kernel), List.mem_of_getElem? (i := 818) (by decide +kernel), List.mem_of_getElem? (i := 819) (by decide +kernel)⟩
theorem lw_p24 : lw_okq (⟨"BoxOnARopeModel", "placeOf", "(I)I"⟩, 24) := ⟨⟨by decide +kernel, by decide +kernel⟩, List.mem_of_getElem? (i := 706) (by decide +kernel), List.mem_of_getElem? (i := 822) (by decide +kernel), List.mem_of_getElem? (i := 823) (by decide +kernel)⟩
theorem lw_p25 : lw_okq (⟨"BoxOnARopeModel", "swap", "(II)V"⟩, 24) := ⟨⟨by decide +kernel, by decide +kernel⟩, List.mem_of_getElem? (i := 706) (by decide +kernel), List.mem_of_getElem? (i := 826) (by decide +kernel), List.mem_of_getElem? (i := 827) (by decide +kernel)⟩
theorem lw_p26 : lw_okq (⟨"BoxOnARopeModel", "keep", "([I)V"⟩, 24) := ⟨⟨by decide +kernel, by decide +kernel⟩, List.mem_of_getElem? (i := 706) (by decide +kernel), List.mem_of_getElem? (i := 830) (by decide +kernel), List.mem_of_getElem? (i := 831) (by decide +kernel)⟩
theorem lw_p27 : lw_okq (⟨"BoxOnARopeModel", "again", "([I)V"⟩, 24) := ⟨⟨by decide +kernel, by decide +kernel⟩, List.mem_of_getElem? (i := 706) (by decide +kernel), List.mem_of_getElem? (i := 834) (by decide +kernel), List.mem_of_getElem? (i := 835) (by decide +kernel)⟩
theorem lw_p28 : lw_okq (⟨"BoxOnARopeModel", "seconds", "(I)I"⟩, 24) := ⟨⟨by decide +kernel, by decide +kernel⟩, List.mem_of_getElem? (i := 706) (by decide +kernel), List.mem_of_getElem? (i := 872) (by decide +kernel), List.mem_of_getElem? (i := 873) (by decide +kernel)⟩
theorem lw_p29 : lw_okq (⟨"BoxOnARopeModel", "noMuch", "(I)I"⟩, 24) := ⟨⟨by decide +kernel, by decide +kernel⟩, List.mem_of_getElem? (i := 706) (by decide +kernel), List.mem_of_getElem? (i := 882) (by decide +kernel), List.mem_of_getElem? (i := 883) (by decide +kernel)⟩
theorem lw_p30 : lw_okq (⟨"BoxOnARopeModel", "run", "(I)V"⟩, 24) := ⟨⟨by decide +kernel, by decide +kernel⟩, List.mem_of_getElem? (i := 706) (by decide +kernel), List.mem_of_getElem? (i := 887) (by decide +kernel), List.mem_of_getElem? (i := 888) (by decide +kernel)⟩
theorem lw_p31 : lw_okq (⟨"BoxOnARopeModel", "totalOf", "(I)I"⟩, 24) := ⟨⟨by decide +kernel, by decide +kernel⟩, List.mem_of_getElem? (i := 706) (by decide +kernel), List.mem_of_getElem? (i := 891) (by decide +kernel), List.mem_of_getElem? (i := 892) (by decide +kernel)⟩
def lw_privs_2 : List (MethodName × Nat) := [(⟨"BoxOnARope", "findFitting", "()I"⟩, 11), (⟨"BoxOnARope", "firstNotSo", "([I)I"⟩, 11), (⟨"BoxOnARopeModel", "no", "(I)I"⟩, 24), (⟨"BoxOnARopeModel", "statement", "(Z)I"⟩, 24), (⟨"BoxOnARopeModel", "is", "(I)Z"⟩, 24), (⟨"BoxOnARopeModel", "digits", "(I)Z"⟩, 24), (⟨"BoxOnARopeModel", "two", "(I)I"⟩, 24), (⟨"BoxOnARopeModel", "isDish", "(I)Z"⟩, 24), (⟨"BoxOnARopeModel", "placeOf", "(I)I"⟩, 24), (⟨"BoxOnARopeModel", "swap", "(II)V"⟩, 24), (⟨"BoxOnARopeModel", "keep", "([I)V"⟩, 24), (⟨"BoxOnARopeModel", "again", "([I)V"⟩, 24), (⟨"BoxOnARopeModel", "seconds", "(I)I"⟩, 24), (⟨"BoxOnARopeModel", "noMuch", "(I)I"⟩, 24), (⟨"BoxOnARopeModel", "run", "(I)V"⟩, 24), (⟨"BoxOnARopeModel", "totalOf", "(I)I"⟩, 24)]
theorem lw_r2 : ∀ q ∈ lw_privs_2, lw_okq q := List.forall_mem_cons.mpr ⟨lw_p16, List.forall_mem_cons.mpr ⟨lw_p17, List.forall_mem_cons.mpr ⟨lw_p18, List.forall_mem_cons.mpr ⟨lw_p19, List.forall_mem_cons.mpr ⟨lw_p20, List.forall_mem_cons.mpr ⟨lw_p21, List.forall_mem_cons.mpr ⟨lw_p22, List.forall_mem_cons.mpr ⟨lw_p23, List.forall_mem_cons.mpr ⟨lw_p24, List.forall_mem_cons.mpr ⟨lw_p25, List.forall_mem_cons.mpr ⟨lw_p26, List.forall_mem_cons.mpr ⟨lw_p27, List.forall_mem_cons.mpr ⟨lw_p28, List.forall_mem_cons.mpr ⟨lw_p29, List.forall_mem_cons.mpr ⟨lw_p30, List.forall_mem_cons.mpr ⟨lw_p31, fun _ h => absurd h List.not_mem_nil⟩⟩⟩⟩⟩⟩⟩⟩⟩⟩⟩⟩⟩⟩⟩⟩
theorem lw_p32 : lw_okq (⟨"BoxOnARopeModel", "lateOf", "(I)I"⟩, 24) := ⟨⟨by decide +kernel, by decide +kernel⟩, List.mem_of_getElem? (i := 706) (by decide +kernel), List.mem_of_getElem? (i := 895) (by decide +kernel), List.mem_of_getElem? (i := 896) (by decide +kernel)⟩
theorem lw_p33 : lw_okq (⟨"BoxOnARopeModel", "begin", "(I)I"⟩, 24) := ⟨⟨by decide +kernel, by decide +kernel⟩, List.mem_of_getElem? (i := 706) (by decide +kernel), List.mem_of_getElem? (i := 899) (by decide +kernel), List.mem_of_getElem? (i := 900) (by decide +kernel)⟩
theorem lw_p34 : lw_okq (⟨"BoxOnARopeModel", "warmOf", "(I)I"⟩, 24) := ⟨⟨by decide +kernel, by decide +kernel⟩, List.mem_of_getElem? (i := 706) (by decide +kernel), List.mem_of_getElem? (i := 903) (by decide +kernel), List.mem_of_getElem? (i := 904) (by decide +kernel)⟩
theorem lw_p35 : lw_okq (⟨"BoxOnARopeModel", "servedOf", "(I)I"⟩, 24) := ⟨⟨by decide +kernel, by decide +kernel⟩, List.mem_of_getElem? (i := 706) (by decide +kernel), List.mem_of_getElem? (i := 907) (by decide +kernel), List.mem_of_getElem? (i := 908) (by decide +kernel)⟩
theorem lw_p36 : lw_okq (⟨"BoxOnARopeModel", "cools", "(II)I"⟩, 24) := ⟨⟨by decide +kernel, by decide +kernel⟩, List.mem_of_getElem? (i := 706) (by decide +kernel), List.mem_of_getElem? (i := 911) (by decide +kernel), List.mem_of_getElem? (i := 912) (by decide +kernel)⟩
theorem lw_p37 : lw_okq (⟨"BoxOnARopeModel", "slops", "(I)I"⟩, 24) := ⟨⟨by decide +kernel, by decide +kernel⟩, List.mem_of_getElem? (i := 706) (by decide +kernel), List.mem_of_getElem? (i := 915) (by decide +kernel), List.mem_of_getElem? (i := 916) (by decide +kernel)⟩
theorem lw_p38 : lw_okq (⟨"BoxOnARopeModel", "stoodOf", "(I)I"⟩, 24) := ⟨⟨by decide +kernel, by decide +kernel⟩, List.mem_of_getElem? (i := 706) (by decide +kernel), List.mem_of_getElem? (i := 919) (by decide +kernel), List.mem_of_getElem? (i := 920) (by decide +kernel)⟩
theorem lw_p39 : lw_okq (⟨"BoxOnARopeModel", "bestOf", "(I)I"⟩, 24) := ⟨⟨by decide +kernel, by decide +kernel⟩, List.mem_of_getElem? (i := 706) (by decide +kernel), List.mem_of_getElem? (i := 931) (by decide +kernel), List.mem_of_getElem? (i := 932) (by decide +kernel)⟩
theorem lw_p40 : lw_okq (⟨"BoxOnARopeModel", "begin", "()V"⟩, 24) := ⟨⟨by decide +kernel, by decide +kernel⟩, List.mem_of_getElem? (i := 706) (by decide +kernel), List.mem_of_getElem? (i := 935) (by decide +kernel), List.mem_of_getElem? (i := 936) (by decide +kernel)⟩
theorem lw_p41 : lw_okq (⟨"BoxOnARopeModel", "next", "()Z"⟩, 24) := ⟨⟨by decide +kernel, by decide +kernel⟩, List.mem_of_getElem? (i := 706) (by decide +kernel), List.mem_of_getElem? (i := 939) (by decide +kernel), List.mem_of_getElem? (i := 940) (by decide +kernel)⟩
theorem lw_p42 : lw_okq (⟨"BoxOnARopeModel", "worth", "()I"⟩, 24) := ⟨⟨by decide +kernel, by decide +kernel⟩, List.mem_of_getElem? (i := 706) (by decide +kernel), List.mem_of_getElem? (i := 951) (by decide +kernel), List.mem_of_getElem? (i := 952) (by decide +kernel)⟩
theorem lw_p43 : lw_okq (⟨"BoxOnARopeModel", "more", "(II)I"⟩, 24) := ⟨⟨by decide +kernel, by decide +kernel⟩, List.mem_of_getElem? (i := 706) (by decide +kernel), List.mem_of_getElem? (i := 959) (by decide +kernel), List.mem_of_getElem? (i := 960) (by decide +kernel)⟩
theorem lw_p44 : lw_okq (⟨"BoxOnARopeModel", "isHalved", "(I)Z"⟩, 24) := ⟨⟨by decide +kernel, by decide +kernel⟩, List.mem_of_getElem? (i := 706) (by decide +kernel), List.mem_of_getElem? (i := 979) (by decide +kernel), List.mem_of_getElem? (i := 980) (by decide +kernel)⟩
theorem lw_p45 : lw_okq (⟨"BoxOnARopeModel", "stands", "(I)I"⟩, 24) := ⟨⟨by decide +kernel, by decide +kernel⟩, List.mem_of_getElem? (i := 706) (by decide +kernel), List.mem_of_getElem? (i := 995) (by decide +kernel), List.mem_of_getElem? (i := 996) (by decide +kernel)⟩
theorem lw_p46 : lw_okq (⟨"BoxOnARopeModel", "wrong", "()I"⟩, 24) := ⟨⟨by decide +kernel, by decide +kernel⟩, List.mem_of_getElem? (i := 706) (by decide +kernel), List.mem_of_getElem? (i := 1007) (by decide +kernel), List.mem_of_getElem? (i := 1008) (by decide +kernel)⟩
def lw_privs_3 : List (MethodName × Nat) := [(⟨"BoxOnARopeModel", "lateOf", "(I)I"⟩, 24), (⟨"BoxOnARopeModel", "begin", "(I)I"⟩, 24), (⟨"BoxOnARopeModel", "warmOf", "(I)I"⟩, 24), (⟨"BoxOnARopeModel", "servedOf", "(I)I"⟩, 24), (⟨"BoxOnARopeModel", "cools", "(II)I"⟩, 24), (⟨"BoxOnARopeModel", "slops", "(I)I"⟩, 24), (⟨"BoxOnARopeModel", "stoodOf", "(I)I"⟩, 24), (⟨"BoxOnARopeModel", "bestOf", "(I)I"⟩, 24), (⟨"BoxOnARopeModel", "begin", "()V"⟩, 24), (⟨"BoxOnARopeModel", "next", "()Z"⟩, 24), (⟨"BoxOnARopeModel", "worth", "()I"⟩, 24), (⟨"BoxOnARopeModel", "more", "(II)I"⟩, 24), (⟨"BoxOnARopeModel", "isHalved", "(I)Z"⟩, 24), (⟨"BoxOnARopeModel", "stands", "(I)I"⟩, 24), (⟨"BoxOnARopeModel", "wrong", "()I"⟩, 24)]
theorem lw_r3 : ∀ q ∈ lw_privs_3, lw_okq q := List.forall_mem_cons.mpr ⟨lw_p32, List.forall_mem_cons.mpr ⟨lw_p33, List.forall_mem_cons.mpr ⟨lw_p34, List.forall_mem_cons.mpr ⟨lw_p35, List.forall_mem_cons.mpr ⟨lw_p36, List.forall_mem_cons.mpr ⟨lw_p37, List.forall_mem_cons.mpr ⟨lw_p38, List.forall_mem_cons.mpr ⟨lw_p39, List.forall_mem_cons.mpr ⟨lw_p40, List.forall_mem_cons.mpr ⟨lw_p41, List.forall_mem_cons.mpr ⟨lw_p42, List.forall_mem_cons.mpr ⟨lw_p43, List.forall_mem_cons.mpr ⟨lw_p44, List.forall_mem_cons.mpr ⟨lw_p45, List.forall_mem_cons.mpr ⟨lw_p46, fun _ h => absurd h List.not_mem_nil⟩⟩⟩⟩⟩⟩⟩⟩⟩⟩⟩⟩⟩⟩⟩
def lw_privs : List (MethodName × Nat) := lw_privs_1 ++ (lw_privs_2 ++ (lw_privs_3))
def lw_tbl : List Cond := k2_sels lw_privs ++ tables_1
theorem lw_privs_ok : ∀ q ∈ lw_privs, lw_okq q := by
  show ∀ q ∈ lw_privs_1 ++ (lw_privs_2 ++ (lw_privs_3)), lw_okq q
  exact List.forall_mem_append.mpr ⟨lw_r1, List.forall_mem_append.mpr ⟨lw_r2, lw_r3⟩⟩
def RX0 : String := "BoxOnARope$Cold"
def TX0 : u_T := fun k => match k with
  | _ => ("", "", "", false)
def tyX0 : Nat → FieldType := fun k => match k with
  | _ => .int
abbrev wsX00 : List Cond := u_ws RX0 TX0 0
theorem nmX0 : ∀ a, a < 0 → ∀ b, b < 0 → a ≠ b → (TX0 a).2.1 ≠ (TX0 b).2.1 := by decide +kernel
theorem tyX0_ok : ∀ k, k < 0 → parseFieldDescriptor (TX0 k).2.2.1 = some (tyX0 k) := by decide +kernel
abbrev cX0_init : ByteArray := prog_2_method_1_code
def yX0_init : MethodName := ⟨RX0, "<init>", "()V"⟩
abbrev cX0_cooled : ByteArray := prog_2_method_2_code
def yX0_cooled : MethodName := ⟨RX0, "cooled", "(I)I"⟩
def RX1 : String := "BoxOnARope$Evening"
def TX1 : u_T := fun k => match k with
  | 0 => ("BoxOnARope$Evening", "kinds", "[LBoxOnARope$Plain;", true)
  | 1 => ("BoxOnARope$Evening", "line", "[I", true)
  | 2 => ("BoxOnARope$Evening", "inLine", "I", false)
  | 3 => ("BoxOnARope$Evening", "up", "[I", true)
  | 4 => ("BoxOnARope$Evening", "served", "[I", true)
  | 5 => ("BoxOnARope$Evening", "warm", "[I", true)
  | 6 => ("BoxOnARope$Evening", "late", "[I", true)
  | 7 => ("BoxOnARope$Evening", "go", "[I", true)
  | 8 => ("BoxOnARope$Evening", "stood", "[I", true)
  | 9 => ("BoxOnARope$Evening", "slops", "[I", true)
  | _ => ("BoxOnARope$Evening", "totals", "[I", true)
def tyX1 : Nat → FieldType := fun k => match k with
  | 0 => .array (.object "BoxOnARope$Plain")
  | 1 => .array .int
  | 2 => .int
  | 3 => .array .int
  | 4 => .array .int
  | 5 => .array .int
  | 6 => .array .int
  | 7 => .array .int
  | 8 => .array .int
  | 9 => .array .int
  | _ => .array .int
abbrev wsX10 : List Cond := u_ws RX1 TX1 11
theorem nmX1 : ∀ a, a < 11 → ∀ b, b < 11 → a ≠ b → (TX1 a).2.1 ≠ (TX1 b).2.1 := by decide +kernel
theorem tyX1_ok : ∀ k, k < 11 → parseFieldDescriptor (TX1 k).2.2.1 = some (tyX1 k) := by decide +kernel
abbrev cX1_init : ByteArray := prog_3_method_1_code
def yX1_init : MethodName := ⟨RX1, "<init>", "()V"⟩
abbrev cX1_pass : ByteArray := prog_3_method_2_code
def yX1_pass : MethodName := ⟨RX1, "pass", "(LBoxOnARope$Kitchen;[II)V"⟩
abbrev cX1_lineUp : ByteArray := prog_3_method_3_code
def yX1_lineUp : MethodName := ⟨RX1, "lineUp", "(LBoxOnARope$Kitchen;[II)V"⟩
abbrev cX1_carryAll : ByteArray := prog_3_method_4_code
def yX1_carryAll : MethodName := ⟨RX1, "carryAll", "(LBoxOnARope$Kitchen;)V"⟩
abbrev cX1_behindGo : ByteArray := prog_3_method_5_code
def yX1_behindGo : MethodName := ⟨RX1, "behindGo", "(LBoxOnARope$Kitchen;I)I"⟩
abbrev cX1_kindOf : ByteArray := prog_3_method_6_code
def yX1_kindOf : MethodName := ⟨RX1, "kindOf", "(LBoxOnARope$Kitchen;I)LBoxOnARope$Plain;"⟩
abbrev cX1_serve : ByteArray := prog_3_method_7_code
def yX1_serve : MethodName := ⟨RX1, "serve", "(LBoxOnARope$Kitchen;I)V"⟩
abbrev cX1_sumUp : ByteArray := prog_3_method_8_code
def yX1_sumUp : MethodName := ⟨RX1, "sumUp", "(LBoxOnARope$Kitchen;)V"⟩
abbrev cX1_isHalved : ByteArray := prog_3_method_9_code
def yX1_isHalved : MethodName := ⟨RX1, "isHalved", "(LBoxOnARope$Kitchen;I)Z"⟩
def RX2 : String := "BoxOnARope$Gravy"
def TX2 : u_T := fun k => match k with
  | _ => ("", "", "", false)
def tyX2 : Nat → FieldType := fun k => match k with
  | _ => .int
abbrev wsX20 : List Cond := u_ws RX2 TX2 0
theorem nmX2 : ∀ a, a < 0 → ∀ b, b < 0 → a ≠ b → (TX2 a).2.1 ≠ (TX2 b).2.1 := by decide +kernel
theorem tyX2_ok : ∀ k, k < 0 → parseFieldDescriptor (TX2 k).2.2.1 = some (tyX2 k) := by decide +kernel
abbrev cX2_init : ByteArray := prog_4_method_1_code
def yX2_init : MethodName := ⟨RX2, "<init>", "()V"⟩
abbrev cX2_cooled : ByteArray := prog_4_method_2_code
def yX2_cooled : MethodName := ⟨RX2, "cooled", "(I)I"⟩
abbrev cX2_slopped : ByteArray := prog_4_method_3_code
def yX2_slopped : MethodName := ⟨RX2, "slopped", "(I)I"⟩
def RX3 : String := "BoxOnARope$Kitchen"
def TX3 : u_T := fun k => match k with
  | 0 => ("BoxOnARope$Kitchen", "dishes", "I", false)
  | 1 => ("BoxOnARope$Kitchen", "kind", "[I", true)
  | 2 => ("BoxOnARope$Kitchen", "weight", "[I", true)
  | 3 => ("BoxOnARope$Kitchen", "heat", "[I", true)
  | 4 => ("BoxOnARope$Kitchen", "plates", "[I", true)
  | 5 => ("BoxOnARope$Kitchen", "course", "[I", true)
  | 6 => ("BoxOnARope$Kitchen", "order", "[I", true)
  | 7 => ("BoxOnARope$Kitchen", "told", "[I", true)
  | _ => ("BoxOnARope$Kitchen", "box", "[I", true)
def tyX3 : Nat → FieldType := fun k => match k with
  | 0 => .int
  | 1 => .array .int
  | 2 => .array .int
  | 3 => .array .int
  | 4 => .array .int
  | 5 => .array .int
  | 6 => .array .int
  | 7 => .array .int
  | _ => .array .int
abbrev wsX30 : List Cond := u_ws RX3 TX3 9
theorem nmX3 : ∀ a, a < 9 → ∀ b, b < 9 → a ≠ b → (TX3 a).2.1 ≠ (TX3 b).2.1 := by decide +kernel
theorem tyX3_ok : ∀ k, k < 9 → parseFieldDescriptor (TX3 k).2.2.1 = some (tyX3 k) := by decide +kernel
abbrev cX3_init : ByteArray := prog_5_method_1_code
def yX3_init : MethodName := ⟨RX3, "<init>", "()V"⟩
abbrev cX3_takeOver : ByteArray := prog_5_method_2_code
def yX3_takeOver : MethodName := ⟨RX3, "takeOver", "(LBoxOnARope$Kitchen;)V"⟩
abbrev cX3_hasDish : ByteArray := prog_5_method_3_code
def yX3_hasDish : MethodName := ⟨RX3, "hasDish", "(I)Z"⟩
abbrev cX3_whereIs : ByteArray := prog_5_method_4_code
def yX3_whereIs : MethodName := ⟨RX3, "whereIs", "(I)I"⟩
abbrev cX3_swap : ByteArray := prog_5_method_5_code
def yX3_swap : MethodName := ⟨RX3, "swap", "(II)Z"⟩
abbrev cX3_addDish : ByteArray := prog_5_method_6_code
def yX3_addDish : MethodName := ⟨RX3, "addDish", "(IIIII)Z"⟩
abbrev cX3_putInBox : ByteArray := prog_5_method_7_code
def yX3_putInBox : MethodName := ⟨RX3, "putInBox", "(II)Z"⟩
abbrev cX3_putBegin : ByteArray := prog_5_method_8_code
def yX3_putBegin : MethodName := ⟨RX3, "putBegin", "(II)Z"⟩
abbrev cX3_beginOf : ByteArray := prog_5_method_9_code
def yX3_beginOf : MethodName := ⟨RX3, "beginOf", "(I)I"⟩
abbrev cX3_secondsWith : ByteArray := prog_5_method_10_code
def yX3_secondsWith : MethodName := ⟨RX3, "secondsWith", "(I)I"⟩
abbrev cX3_sumOf : ByteArray := prog_5_method_11_code
def yX3_sumOf : MethodName := ⟨RX3, "sumOf", "([I)I"⟩
def RX4 : String := "BoxOnARope$Lidded"
def TX4 : u_T := fun k => match k with
  | _ => ("", "", "", false)
def tyX4 : Nat → FieldType := fun k => match k with
  | _ => .int
abbrev wsX40 : List Cond := u_ws RX4 TX4 0
theorem nmX4 : ∀ a, a < 0 → ∀ b, b < 0 → a ≠ b → (TX4 a).2.1 ≠ (TX4 b).2.1 := by decide +kernel
theorem tyX4_ok : ∀ k, k < 0 → parseFieldDescriptor (TX4 k).2.2.1 = some (tyX4 k) := by decide +kernel
abbrev cX4_init : ByteArray := prog_6_method_1_code
def yX4_init : MethodName := ⟨RX4, "<init>", "()V"⟩
abbrev cX4_cooled : ByteArray := prog_6_method_2_code
def yX4_cooled : MethodName := ⟨RX4, "cooled", "(I)I"⟩
abbrev cX4_underLid : ByteArray := prog_6_method_3_code
def yX4_underLid : MethodName := ⟨RX4, "underLid", "(I)I"⟩
def RX5 : String := "BoxOnARope$Orders"
def TX5 : u_T := fun k => match k with
  | 0 => ("BoxOnARope$Orders", "line", "[I", true)
  | _ => ("BoxOnARope$Orders", "dishes", "I", false)
def tyX5 : Nat → FieldType := fun k => match k with
  | 0 => .array .int
  | _ => .int
abbrev wsX50 : List Cond := u_ws RX5 TX5 2
theorem nmX5 : ∀ a, a < 2 → ∀ b, b < 2 → a ≠ b → (TX5 a).2.1 ≠ (TX5 b).2.1 := by decide +kernel
theorem tyX5_ok : ∀ k, k < 2 → parseFieldDescriptor (TX5 k).2.2.1 = some (tyX5 k) := by decide +kernel
abbrev cX5_init : ByteArray := prog_7_method_1_code
def yX5_init : MethodName := ⟨RX5, "<init>", "()V"⟩
abbrev cX5_start : ByteArray := prog_7_method_2_code
def yX5_start : MethodName := ⟨RX5, "start", "(I)V"⟩
abbrev cX5_advance : ByteArray := prog_7_method_3_code
def yX5_advance : MethodName := ⟨RX5, "advance", "()Z"⟩
abbrev cX5_swapPlaces : ByteArray := prog_7_method_4_code
def yX5_swapPlaces : MethodName := ⟨RX5, "swapPlaces", "(II)V"⟩
def RX6 : String := "BoxOnARope$Plain"
def TX6 : u_T := fun k => match k with
  | _ => ("", "", "", false)
def tyX6 : Nat → FieldType := fun k => match k with
  | _ => .int
abbrev wsX60 : List Cond := u_ws RX6 TX6 0
theorem nmX6 : ∀ a, a < 0 → ∀ b, b < 0 → a ≠ b → (TX6 a).2.1 ≠ (TX6 b).2.1 := by decide +kernel
theorem tyX6_ok : ∀ k, k < 0 → parseFieldDescriptor (TX6 k).2.2.1 = some (tyX6 k) := by decide +kernel
abbrev cX6_init : ByteArray := prog_8_method_1_code
def yX6_init : MethodName := ⟨RX6, "<init>", "()V"⟩
abbrev cX6_cooled : ByteArray := prog_8_method_2_code
def yX6_cooled : MethodName := ⟨RX6, "cooled", "(I)I"⟩
abbrev cX6_slopped : ByteArray := prog_8_method_3_code
def yX6_slopped : MethodName := ⟨RX6, "slopped", "(I)I"⟩
abbrev cX6_isAlone : ByteArray := prog_8_method_4_code
def yX6_isAlone : MethodName := ⟨RX6, "isAlone", "()Z"⟩
def RX7 : String := "BoxOnARope$Roast"
def TX7 : u_T := fun k => match k with
  | _ => ("", "", "", false)
def tyX7 : Nat → FieldType := fun k => match k with
  | _ => .int
abbrev wsX70 : List Cond := u_ws RX7 TX7 0
theorem nmX7 : ∀ a, a < 0 → ∀ b, b < 0 → a ≠ b → (TX7 a).2.1 ≠ (TX7 b).2.1 := by decide +kernel
theorem tyX7_ok : ∀ k, k < 0 → parseFieldDescriptor (TX7 k).2.2.1 = some (tyX7 k) := by decide +kernel
abbrev cX7_init : ByteArray := prog_9_method_1_code
def yX7_init : MethodName := ⟨RX7, "<init>", "()V"⟩
abbrev cX7_cooled : ByteArray := prog_9_method_2_code
def yX7_cooled : MethodName := ⟨RX7, "cooled", "(I)I"⟩
abbrev cX7_isAlone : ByteArray := prog_9_method_3_code
def yX7_isAlone : MethodName := ⟨RX7, "isAlone", "()Z"⟩
def RX8 : String := "BoxOnARope$Soup"
def TX8 : u_T := fun k => match k with
  | _ => ("", "", "", false)
def tyX8 : Nat → FieldType := fun k => match k with
  | _ => .int
abbrev wsX80 : List Cond := u_ws RX8 TX8 0
theorem nmX8 : ∀ a, a < 0 → ∀ b, b < 0 → a ≠ b → (TX8 a).2.1 ≠ (TX8 b).2.1 := by decide +kernel
theorem tyX8_ok : ∀ k, k < 0 → parseFieldDescriptor (TX8 k).2.2.1 = some (tyX8 k) := by decide +kernel
abbrev cX8_init : ByteArray := prog_10_method_1_code
def yX8_init : MethodName := ⟨RX8, "<init>", "()V"⟩
abbrev cX8_slopped : ByteArray := prog_10_method_2_code
def yX8_slopped : MethodName := ⟨RX8, "slopped", "(I)I"⟩
def RX9 : String := "BoxOnARope$Telling"
def TX9 : u_T := fun k => match k with
  | 0 => ("BoxOnARope$Telling", "letters", "[I", true)
  | _ => ("BoxOnARope$Telling", "length", "I", false)
def tyX9 : Nat → FieldType := fun k => match k with
  | 0 => .array .int
  | _ => .int
abbrev wsX90 : List Cond := u_ws RX9 TX9 2
theorem nmX9 : ∀ a, a < 2 → ∀ b, b < 2 → a ≠ b → (TX9 a).2.1 ≠ (TX9 b).2.1 := by decide +kernel
theorem tyX9_ok : ∀ k, k < 2 → parseFieldDescriptor (TX9 k).2.2.1 = some (tyX9 k) := by decide +kernel
abbrev cX9_init : ByteArray := prog_11_method_1_code
def yX9_init : MethodName := ⟨RX9, "<init>", "()V"⟩
abbrev cX9_add : ByteArray := prog_11_method_2_code
def yX9_add : MethodName := ⟨RX9, "add", "(I)I"⟩
abbrev cX9_formOf : ByteArray := prog_11_method_3_code
def yX9_formOf : MethodName := ⟨RX9, "formOf", "(I)Ljava/lang/String;"⟩
abbrev cX9_suits : ByteArray := prog_11_method_4_code
def yX9_suits : MethodName := ⟨RX9, "suits", "(IC)Z"⟩
abbrev cX9_firstMisplaced : ByteArray := prog_11_method_5_code
def yX9_firstMisplaced : MethodName := ⟨RX9, "firstMisplaced", "()I"⟩
abbrev cX9_lengthFrom : ByteArray := prog_11_method_6_code
def yX9_lengthFrom : MethodName := ⟨RX9, "lengthFrom", "(I)I"⟩
abbrev cX9_letterAt : ByteArray := prog_11_method_7_code
def yX9_letterAt : MethodName := ⟨RX9, "letterAt", "(I)I"⟩
abbrev cX9_number : ByteArray := prog_11_method_8_code
def yX9_number : MethodName := ⟨RX9, "number", "(II)I"⟩
abbrev cX9_tellTo : ByteArray := prog_11_method_9_code
def yX9_tellTo : MethodName := ⟨RX9, "tellTo", "(LBoxOnARope$Kitchen;I)Z"⟩
def RX10 : String := "BoxOnARope"
def TX10 : u_T := fun k => match k with
  | 0 => ("BoxOnARope", "now", "LBoxOnARope$Kitchen;", true)
  | 1 => ("BoxOnARope", "trial", "LBoxOnARope$Kitchen;", true)
  | 2 => ("BoxOnARope", "kept", "LBoxOnARope$Kitchen;", true)
  | 3 => ("BoxOnARope", "hasKept", "Z", false)
  | 4 => ("BoxOnARope", "telling", "LBoxOnARope$Telling;", true)
  | 5 => ("BoxOnARope", "evening", "LBoxOnARope$Evening;", true)
  | 6 => ("BoxOnARope", "orders", "LBoxOnARope$Orders;", true)
  | 7 => ("BoxOnARope", "found", "[I", true)
  | 8 => ("BoxOnARope", "told", "[I", true)
  | 9 => ("BoxOnARope", "toldCount", "I", false)
  | _ => ("BoxOnARope", "refusals", "[I", true)
def tyX10 : Nat → FieldType := fun k => match k with
  | 0 => .object "BoxOnARope$Kitchen"
  | 1 => .object "BoxOnARope$Kitchen"
  | 2 => .object "BoxOnARope$Kitchen"
  | 3 => .boolean
  | 4 => .object "BoxOnARope$Telling"
  | 5 => .object "BoxOnARope$Evening"
  | 6 => .object "BoxOnARope$Orders"
  | 7 => .array .int
  | 8 => .array .int
  | 9 => .int
  | _ => .array .int
abbrev wsX100 : List Cond := u_ws RX10 TX10 11
theorem nmX10 : ∀ a, a < 11 → ∀ b, b < 11 → a ≠ b → (TX10 a).2.1 ≠ (TX10 b).2.1 := by decide +kernel
theorem tyX10_ok : ∀ k, k < 11 → parseFieldDescriptor (TX10 k).2.2.1 = some (tyX10 k) := by decide +kernel
abbrev cX10_init : ByteArray := prog_1_method_1_code
def yX10_init : MethodName := ⟨RX10, "<init>", "()V"⟩
abbrev cX10_letter : ByteArray := prog_1_method_2_code
def yX10_letter : MethodName := ⟨RX10, "letter", "(I)I"⟩
abbrev cX10_kitchen : ByteArray := prog_1_method_3_code
def yX10_kitchen : MethodName := ⟨RX10, "kitchen", "()I"⟩
abbrev cX10_dish : ByteArray := prog_1_method_4_code
def yX10_dish : MethodName := ⟨RX10, "dish", "(II)I"⟩
abbrev cX10_place : ByteArray := prog_1_method_5_code
def yX10_place : MethodName := ⟨RX10, "place", "(I)I"⟩
abbrev cX10_change : ByteArray := prog_1_method_6_code
def yX10_change : MethodName := ⟨RX10, "change", "(II)I"⟩
abbrev cX10_heat : ByteArray := prog_1_method_7_code
def yX10_heat : MethodName := ⟨RX10, "heat", "(II)I"⟩
abbrev cX10_begins : ByteArray := prog_1_method_8_code
def yX10_begins : MethodName := ⟨RX10, "begins", "(II)I"⟩
abbrev cX10_set : ByteArray := prog_1_method_9_code
def yX10_set : MethodName := ⟨RX10, "set", "(II)I"⟩
abbrev cX10_goes : ByteArray := prog_1_method_10_code
def yX10_goes : MethodName := ⟨RX10, "goes", "(I)I"⟩
abbrev cX10_total : ByteArray := prog_1_method_11_code
def yX10_total : MethodName := ⟨RX10, "total", "(I)I"⟩
abbrev cX10_of : ByteArray := prog_1_method_12_code
def yX10_of : MethodName := ⟨RX10, "of", "(II)I"⟩
abbrev cX10_best : ByteArray := prog_1_method_13_code
def yX10_best : MethodName := ⟨RX10, "best", "(I)I"⟩
abbrev cX10_bestAt : ByteArray := prog_1_method_14_code
def yX10_bestAt : MethodName := ⟨RX10, "bestAt", "(II)I"⟩
abbrev cX10_bestSet : ByteArray := prog_1_method_15_code
def yX10_bestSet : MethodName := ⟨RX10, "bestSet", "(I)I"⟩
abbrev cX10_roomMore : ByteArray := prog_1_method_16_code
def yX10_roomMore : MethodName := ⟨RX10, "roomMore", "()I"⟩
abbrev cX10_twoPull : ByteArray := prog_1_method_17_code
def yX10_twoPull : MethodName := ⟨RX10, "twoPull", "()I"⟩
abbrev cX10_stairs : ByteArray := prog_1_method_18_code
def yX10_stairs : MethodName := ⟨RX10, "stairs", "(I)I"⟩
abbrev cX10_forgotten : ByteArray := prog_1_method_19_code
def yX10_forgotten : MethodName := ⟨RX10, "forgotten", "(I)I"⟩
abbrev cX10_halved : ByteArray := prog_1_method_20_code
def yX10_halved : MethodName := ⟨RX10, "halved", "(I)I"⟩
abbrev cX10_heard : ByteArray := prog_1_method_21_code
def yX10_heard : MethodName := ⟨RX10, "heard", "(I)I"⟩
abbrev cX10_waits : ByteArray := prog_1_method_22_code
def yX10_waits : MethodName := ⟨RX10, "waits", "(I)I"⟩
abbrev cX10_send : ByteArray := prog_1_method_23_code
def yX10_send : MethodName := ⟨RX10, "send", "(I)I"⟩
abbrev cX10_row : ByteArray := prog_1_method_24_code
def yX10_row : MethodName := ⟨RX10, "row", "(I)I"⟩
abbrev cX10_fits : ByteArray := prog_1_method_25_code
def yX10_fits : MethodName := ⟨RX10, "fits", "(I)I"⟩
abbrev cX10_judge : ByteArray := prog_1_method_26_code
def yX10_judge : MethodName := ⟨RX10, "judge", "()I"⟩
abbrev cX10_lots : ByteArray := prog_1_method_27_code
def yX10_lots : MethodName := ⟨RX10, "lots", "(II)I"⟩
abbrev cX10_image : ByteArray := prog_1_method_28_code
def yX10_image : MethodName := ⟨RX10, "image", "()I"⟩
abbrev cX10_on : ByteArray := prog_1_method_29_code
def yX10_on : MethodName := ⟨RX10, "on", "()I"⟩
abbrev cX10_count : ByteArray := prog_1_method_30_code
def yX10_count : MethodName := ⟨RX10, "count", "(I)I"⟩
abbrev cX10_refuse : ByteArray := prog_1_method_31_code
def yX10_refuse : MethodName := ⟨RX10, "refuse", "(I)I"⟩
abbrev cX10_refuseAbove : ByteArray := prog_1_method_32_code
def yX10_refuseAbove : MethodName := ⟨RX10, "refuseAbove", "(I)I"⟩
abbrev cX10_isCourse : ByteArray := prog_1_method_33_code
def yX10_isCourse : MethodName := ⟨RX10, "isCourse", "(I)Z"⟩
abbrev cX10_isTotal : ByteArray := prog_1_method_34_code
def yX10_isTotal : MethodName := ⟨RX10, "isTotal", "(I)Z"⟩
abbrev cX10_becomeKitchen : ByteArray := prog_1_method_35_code
def yX10_becomeKitchen : MethodName := ⟨RX10, "becomeKitchen", "()I"⟩
abbrev cX10_lookAtNow : ByteArray := prog_1_method_36_code
def yX10_lookAtNow : MethodName := ⟨RX10, "lookAtNow", "()V"⟩
abbrev cX10_worthNow : ByteArray := prog_1_method_37_code
def yX10_worthNow : MethodName := ⟨RX10, "worthNow", "()I"⟩
abbrev cX10_worthWith : ByteArray := prog_1_method_38_code
def yX10_worthWith : MethodName := ⟨RX10, "worthWith", "(II)I"⟩
abbrev cX10_findBest : ByteArray := prog_1_method_39_code
def yX10_findBest : MethodName := ⟨RX10, "findBest", "(I)I"⟩
abbrev cX10_findFitting : ByteArray := prog_1_method_40_code
def yX10_findFitting : MethodName := ⟨RX10, "findFitting", "()I"⟩
abbrev cX10_firstNotSo : ByteArray := prog_1_method_41_code
def yX10_firstNotSo : MethodName := ⟨RX10, "firstNotSo", "([I)I"⟩
def RX11 : String := "BoxOnARopeModel"
def TX11 : u_T := fun k => match k with
  | 0 => ("BoxOnARopeModel", "dishes", "I", false)
  | 1 => ("BoxOnARopeModel", "kind", "[I", true)
  | 2 => ("BoxOnARopeModel", "weight", "[I", true)
  | 3 => ("BoxOnARopeModel", "heat", "[I", true)
  | 4 => ("BoxOnARopeModel", "plates", "[I", true)
  | 5 => ("BoxOnARopeModel", "course", "[I", true)
  | 6 => ("BoxOnARopeModel", "order", "[I", true)
  | 7 => ("BoxOnARopeModel", "set", "[I", true)
  | 8 => ("BoxOnARopeModel", "told", "[I", true)
  | 9 => ("BoxOnARopeModel", "letters", "I", false)
  | 10 => ("BoxOnARopeModel", "letter", "[I", true)
  | 11 => ("BoxOnARopeModel", "at", "I", false)
  | 12 => ("BoxOnARopeModel", "value", "[I", true)
  | 13 => ("BoxOnARopeModel", "inRow", "I", false)
  | 14 => ("BoxOnARopeModel", "row", "[I", true)
  | 15 => ("BoxOnARopeModel", "refusals", "[I", true)
  | 16 => ("BoxOnARopeModel", "imaged", "Z", false)
  | 17 => ("BoxOnARopeModel", "old", "[I", true)
  | 18 => ("BoxOnARopeModel", "ahead", "[I", true)
  | 19 => ("BoxOnARopeModel", "up", "[I", true)
  | 20 => ("BoxOnARopeModel", "go", "[I", true)
  | 21 => ("BoxOnARopeModel", "many", "I", false)
  | 22 => ("BoxOnARopeModel", "down", "I", false)
  | _ => ("BoxOnARopeModel", "best", "[I", true)
def tyX11 : Nat → FieldType := fun k => match k with
  | 0 => .int
  | 1 => .array .int
  | 2 => .array .int
  | 3 => .array .int
  | 4 => .array .int
  | 5 => .array .int
  | 6 => .array .int
  | 7 => .array .int
  | 8 => .array .int
  | 9 => .int
  | 10 => .array .int
  | 11 => .int
  | 12 => .array .int
  | 13 => .int
  | 14 => .array .int
  | 15 => .array .int
  | 16 => .boolean
  | 17 => .array .int
  | 18 => .array .int
  | 19 => .array .int
  | 20 => .array .int
  | 21 => .int
  | 22 => .int
  | _ => .array .int
abbrev wsX110 : List Cond := u_ws RX11 TX11 24
theorem nmX11 : ∀ a, a < 24 → ∀ b, b < 24 → a ≠ b → (TX11 a).2.1 ≠ (TX11 b).2.1 := by decide +kernel
theorem tyX11_ok : ∀ k, k < 24 → parseFieldDescriptor (TX11 k).2.2.1 = some (tyX11 k) := by decide +kernel
abbrev cX11_init : ByteArray := prog_13_method_1_code
def yX11_init : MethodName := ⟨RX11, "<init>", "()V"⟩
abbrev cX11_no : ByteArray := prog_13_method_2_code
def yX11_no : MethodName := ⟨RX11, "no", "(I)I"⟩
abbrev cX11_noMuch : ByteArray := prog_13_method_3_code
def yX11_noMuch : MethodName := ⟨RX11, "noMuch", "(I)I"⟩
abbrev cX11_within : ByteArray := prog_13_method_4_code
def yX11_within : MethodName := ⟨RX11, "within", "(III)Z"⟩
abbrev cX11_isDish : ByteArray := prog_13_method_5_code
def yX11_isDish : MethodName := ⟨RX11, "isDish", "(I)Z"⟩
abbrev cX11_leastOf : ByteArray := prog_13_method_6_code
def yX11_leastOf : MethodName := ⟨RX11, "leastOf", "(I)I"⟩
abbrev cX11_mostOf : ByteArray := prog_13_method_7_code
def yX11_mostOf : MethodName := ⟨RX11, "mostOf", "(I)I"⟩
abbrev cX11_letter : ByteArray := prog_13_method_8_code
def yX11_letter : MethodName := ⟨RX11, "letter", "(I)I"⟩
abbrev cX11_is : ByteArray := prog_13_method_9_code
def yX11_is : MethodName := ⟨RX11, "is", "(I)Z"⟩
abbrev cX11_digits : ByteArray := prog_13_method_10_code
def yX11_digits : MethodName := ⟨RX11, "digits", "(I)Z"⟩
abbrev cX11_two : ByteArray := prog_13_method_11_code
def yX11_two : MethodName := ⟨RX11, "two", "(I)I"⟩
abbrev cX11_statement : ByteArray := prog_13_method_12_code
def yX11_statement : MethodName := ⟨RX11, "statement", "(Z)I"⟩
abbrev cX11_kitchen : ByteArray := prog_13_method_13_code
def yX11_kitchen : MethodName := ⟨RX11, "kitchen", "()I"⟩
abbrev cX11_placeOf : ByteArray := prog_13_method_14_code
def yX11_placeOf : MethodName := ⟨RX11, "placeOf", "(I)I"⟩
abbrev cX11_swap : ByteArray := prog_13_method_15_code
def yX11_swap : MethodName := ⟨RX11, "swap", "(II)V"⟩
abbrev cX11_dish : ByteArray := prog_13_method_16_code
def yX11_dish : MethodName := ⟨RX11, "dish", "(II)I"⟩
abbrev cX11_place : ByteArray := prog_13_method_17_code
def yX11_place : MethodName := ⟨RX11, "place", "(I)I"⟩
abbrev cX11_change : ByteArray := prog_13_method_18_code
def yX11_change : MethodName := ⟨RX11, "change", "(II)I"⟩
abbrev cX11_heat : ByteArray := prog_13_method_19_code
def yX11_heat : MethodName := ⟨RX11, "heat", "(II)I"⟩
abbrev cX11_begins : ByteArray := prog_13_method_20_code
def yX11_begins : MethodName := ⟨RX11, "begins", "(II)I"⟩
abbrev cX11_set : ByteArray := prog_13_method_21_code
def yX11_set : MethodName := ⟨RX11, "set", "(II)I"⟩
abbrev cX11_seconds : ByteArray := prog_13_method_22_code
def yX11_seconds : MethodName := ⟨RX11, "seconds", "(I)I"⟩
abbrev cX11_goes : ByteArray := prog_13_method_23_code
def yX11_goes : MethodName := ⟨RX11, "goes", "(I)I"⟩
abbrev cX11_run : ByteArray := prog_13_method_24_code
def yX11_run : MethodName := ⟨RX11, "run", "(I)V"⟩
abbrev cX11_begin : ByteArray := prog_13_method_25_code
def yX11_begin : MethodName := ⟨RX11, "begin", "(I)I"⟩
abbrev cX11_servedOf : ByteArray := prog_13_method_26_code
def yX11_servedOf : MethodName := ⟨RX11, "servedOf", "(I)I"⟩
abbrev cX11_cools : ByteArray := prog_13_method_27_code
def yX11_cools : MethodName := ⟨RX11, "cools", "(II)I"⟩
abbrev cX11_slops : ByteArray := prog_13_method_28_code
def yX11_slops : MethodName := ⟨RX11, "slops", "(I)I"⟩
abbrev cX11_warmOf : ByteArray := prog_13_method_29_code
def yX11_warmOf : MethodName := ⟨RX11, "warmOf", "(I)I"⟩
abbrev cX11_lateOf : ByteArray := prog_13_method_30_code
def yX11_lateOf : MethodName := ⟨RX11, "lateOf", "(I)I"⟩
abbrev cX11_stoodOf : ByteArray := prog_13_method_31_code
def yX11_stoodOf : MethodName := ⟨RX11, "stoodOf", "(I)I"⟩
abbrev cX11_totalOf : ByteArray := prog_13_method_32_code
def yX11_totalOf : MethodName := ⟨RX11, "totalOf", "(I)I"⟩
abbrev cX11_worth : ByteArray := prog_13_method_33_code
def yX11_worth : MethodName := ⟨RX11, "worth", "()I"⟩
abbrev cX11_total : ByteArray := prog_13_method_34_code
def yX11_total : MethodName := ⟨RX11, "total", "(I)I"⟩
abbrev cX11_of : ByteArray := prog_13_method_35_code
def yX11_of : MethodName := ⟨RX11, "of", "(II)I"⟩
abbrev cX11_next : ByteArray := prog_13_method_36_code
def yX11_next : MethodName := ⟨RX11, "next", "()Z"⟩
abbrev cX11_begin_ : ByteArray := prog_13_method_37_code
def yX11_begin_ : MethodName := ⟨RX11, "begin", "()V"⟩
abbrev cX11_bestOf : ByteArray := prog_13_method_38_code
def yX11_bestOf : MethodName := ⟨RX11, "bestOf", "(I)I"⟩
abbrev cX11_best : ByteArray := prog_13_method_39_code
def yX11_best : MethodName := ⟨RX11, "best", "(I)I"⟩
abbrev cX11_bestAt : ByteArray := prog_13_method_40_code
def yX11_bestAt : MethodName := ⟨RX11, "bestAt", "(II)I"⟩
abbrev cX11_bestSet : ByteArray := prog_13_method_41_code
def yX11_bestSet : MethodName := ⟨RX11, "bestSet", "(I)I"⟩
abbrev cX11_more : ByteArray := prog_13_method_42_code
def yX11_more : MethodName := ⟨RX11, "more", "(II)I"⟩
abbrev cX11_roomMore : ByteArray := prog_13_method_43_code
def yX11_roomMore : MethodName := ⟨RX11, "roomMore", "()I"⟩
abbrev cX11_twoPull : ByteArray := prog_13_method_44_code
def yX11_twoPull : MethodName := ⟨RX11, "twoPull", "()I"⟩
abbrev cX11_stairs : ByteArray := prog_13_method_45_code
def yX11_stairs : MethodName := ⟨RX11, "stairs", "(I)I"⟩
abbrev cX11_forgotten : ByteArray := prog_13_method_46_code
def yX11_forgotten : MethodName := ⟨RX11, "forgotten", "(I)I"⟩
abbrev cX11_isHalved : ByteArray := prog_13_method_47_code
def yX11_isHalved : MethodName := ⟨RX11, "isHalved", "(I)Z"⟩
abbrev cX11_halved : ByteArray := prog_13_method_48_code
def yX11_halved : MethodName := ⟨RX11, "halved", "(I)I"⟩
abbrev cX11_heard : ByteArray := prog_13_method_49_code
def yX11_heard : MethodName := ⟨RX11, "heard", "(I)I"⟩
abbrev cX11_waits : ByteArray := prog_13_method_50_code
def yX11_waits : MethodName := ⟨RX11, "waits", "(I)I"⟩
abbrev cX11_stands : ByteArray := prog_13_method_51_code
def yX11_stands : MethodName := ⟨RX11, "stands", "(I)I"⟩
abbrev cX11_send : ByteArray := prog_13_method_52_code
def yX11_send : MethodName := ⟨RX11, "send", "(I)I"⟩
abbrev cX11_row : ByteArray := prog_13_method_53_code
def yX11_row : MethodName := ⟨RX11, "row", "(I)I"⟩
abbrev cX11_wrong : ByteArray := prog_13_method_54_code
def yX11_wrong : MethodName := ⟨RX11, "wrong", "()I"⟩
abbrev cX11_fits : ByteArray := prog_13_method_55_code
def yX11_fits : MethodName := ⟨RX11, "fits", "(I)I"⟩
abbrev cX11_judge : ByteArray := prog_13_method_56_code
def yX11_judge : MethodName := ⟨RX11, "judge", "()I"⟩
abbrev cX11_lots : ByteArray := prog_13_method_57_code
def yX11_lots : MethodName := ⟨RX11, "lots", "(II)I"⟩
abbrev cX11_keep : ByteArray := prog_13_method_58_code
def yX11_keep : MethodName := ⟨RX11, "keep", "([I)V"⟩
abbrev cX11_again : ByteArray := prog_13_method_59_code
def yX11_again : MethodName := ⟨RX11, "again", "([I)V"⟩
abbrev cX11_image : ByteArray := prog_13_method_60_code
def yX11_image : MethodName := ⟨RX11, "image", "()I"⟩
abbrev cX11_on : ByteArray := prog_13_method_61_code
def yX11_on : MethodName := ⟨RX11, "on", "()I"⟩
abbrev cX11_count : ByteArray := prog_13_method_62_code
def yX11_count : MethodName := ⟨RX11, "count", "(I)I"⟩
def RJ11 : String := "java/lang/Character"
def TJ11 : u_T := fun k => match k with
  | _ => ("", "", "", false)
def tyJ11 : Nat → FieldType := fun k => match k with
  | _ => .int
abbrev wsJ110 : List Cond := u_ws RJ11 TJ11 0
theorem nmJ11 : ∀ a, a < 0 → ∀ b, b < 0 → a ≠ b → (TJ11 a).2.1 ≠ (TJ11 b).2.1 := by decide +kernel
theorem tyJ11_ok : ∀ k, k < 0 → parseFieldDescriptor (TJ11 k).2.2.1 = some (tyJ11 k) := by decide +kernel
abbrev cJ11_isValidCodePoint_9a6ad : ByteArray := prog_14_method_11_code
def yJ11_isValidCodePoint_9a6ad : MethodName := ⟨RJ11, "isValidCodePoint", "(I)Z"⟩
abbrev cJ11_highSurrogate_5068e : ByteArray := prog_14_method_28_code
def yJ11_highSurrogate_5068e : MethodName := ⟨RJ11, "highSurrogate", "(I)C"⟩
abbrev cJ11_lowSurrogate_5068e : ByteArray := prog_14_method_29_code
def yJ11_lowSurrogate_5068e : MethodName := ⟨RJ11, "lowSurrogate", "(I)C"⟩
def RJ9 : String := "java/lang/Math"
def TJ9 : u_T := fun k => match k with
  | _ => ("", "", "", false)
def tyJ9 : Nat → FieldType := fun k => match k with
  | _ => .int
abbrev wsJ90 : List Cond := u_ws RJ9 TJ9 0
theorem nmJ9 : ∀ a, a < 0 → ∀ b, b < 0 → a ≠ b → (TJ9 a).2.1 ≠ (TJ9 b).2.1 := by decide +kernel
theorem tyJ9_ok : ∀ k, k < 0 → parseFieldDescriptor (TJ9 k).2.2.1 = some (tyJ9 k) := by decide +kernel
abbrev cJ9_abs_0f7a4 : ByteArray := prog_15_method_59_code
def yJ9_abs_0f7a4 : MethodName := ⟨RJ9, "abs", "(I)I"⟩
abbrev cJ9_max_7cf53 : ByteArray := prog_15_method_65_code
def yJ9_max_7cf53 : MethodName := ⟨RJ9, "max", "(II)I"⟩
abbrev cJ9_min_7cf53 : ByteArray := prog_15_method_69_code
def yJ9_min_7cf53 : MethodName := ⟨RJ9, "min", "(II)I"⟩
def RJ0 : String := "java/lang/String"
def TJ0 : u_T := fun k => match k with
  | _ => ("", "", "", false)
def tyJ0 : Nat → FieldType := fun k => match k with
  | _ => .int
abbrev wsJ00 : List Cond := u_ws RJ0 TJ0 0
theorem nmJ0 : ∀ a, a < 0 → ∀ b, b < 0 → a ≠ b → (TJ0 a).2.1 ≠ (TJ0 b).2.1 := by decide +kernel
theorem tyJ0_ok : ∀ k, k < 0 → parseFieldDescriptor (TJ0 k).2.2.1 = some (tyJ0 k) := by decide +kernel
abbrev cJ0_length_8abf5 : ByteArray := prog_16_method_54_code
def yJ0_length_8abf5 : MethodName := ⟨RJ0, "length", "()I"⟩
abbrev cJ0_isEmpty_aae02 : ByteArray := prog_16_method_55_code
def yJ0_isEmpty_aae02 : MethodName := ⟨RJ0, "isEmpty", "()Z"⟩
abbrev cJ0_charAt_5068e : ByteArray := prog_16_method_56_code
def yJ0_charAt_5068e : MethodName := ⟨RJ0, "charAt", "(I)C"⟩
abbrev cJ0_indexOf_0f7a4 : ByteArray := prog_16_method_79_code
def yJ0_indexOf_0f7a4 : MethodName := ⟨RJ0, "indexOf", "(I)I"⟩
abbrev cJ0_indexOf_7cf53 : ByteArray := prog_16_method_80_code
def yJ0_indexOf_7cf53 : MethodName := ⟨RJ0, "indexOf", "(II)I"⟩
abbrev cJ0_coder_7d493 : ByteArray := prog_16_method_152_code
def yJ0_coder_7d493 : MethodName := ⟨RJ0, "coder", "()B"⟩
abbrev cJ0_isLatin1_aae02 : ByteArray := prog_16_method_154_code
def yJ0_isLatin1_aae02 : MethodName := ⟨RJ0, "isLatin1", "()Z"⟩
abbrev cJ0_checkIndex_df160 : ByteArray := prog_16_method_155_code
def yJ0_checkIndex_df160 : MethodName := ⟨RJ0, "checkIndex", "(II)V"⟩
abbrev cJ0_checkBoundsBeginEnd_23922 : ByteArray := prog_16_method_158_code
def yJ0_checkBoundsBeginEnd_23922 : MethodName := ⟨RJ0, "checkBoundsBeginEnd", "(III)V"⟩
def RJ1 : String := "java/lang/StringLatin1"
def TJ1 : u_T := fun k => match k with
  | _ => ("", "", "", false)
def tyJ1 : Nat → FieldType := fun k => match k with
  | _ => .int
abbrev wsJ10 : List Cond := u_ws RJ1 TJ1 0
theorem nmJ1 : ∀ a, a < 0 → ∀ b, b < 0 → a ≠ b → (TJ1 a).2.1 ≠ (TJ1 b).2.1 := by decide +kernel
theorem tyJ1_ok : ∀ k, k < 0 → parseFieldDescriptor (TJ1 k).2.2.1 = some (tyJ1 k) := by decide +kernel
abbrev cJ1_charAt_3b067 : ByteArray := prog_17_method_2_code
def yJ1_charAt_3b067 : MethodName := ⟨RJ1, "charAt", "([BI)C"⟩
abbrev cJ1_canEncode_9a6ad : ByteArray := prog_17_method_4_code
def yJ1_canEncode_9a6ad : MethodName := ⟨RJ1, "canEncode", "(I)Z"⟩
abbrev cJ1_indexOf_4cfef : ByteArray := prog_17_method_22_code
def yJ1_indexOf_4cfef : MethodName := ⟨RJ1, "indexOf", "([BIII)I"⟩
abbrev cJ1_indexOfChar_4cfef : ByteArray := prog_17_method_23_code
def yJ1_indexOfChar_4cfef : MethodName := ⟨RJ1, "indexOfChar", "([BIII)I"⟩
def RJ2 : String := "java/lang/StringUTF16"
def TJ2 : u_T := fun k => match k with
  | _ => ("", "", "", false)
def tyJ2 : Nat → FieldType := fun k => match k with
  | _ => .int
abbrev wsJ20 : List Cond := u_ws RJ2 TJ2 0
theorem nmJ2 : ∀ a, a < 0 → ∀ b, b < 0 → a ≠ b → (TJ2 a).2.1 ≠ (TJ2 b).2.1 := by decide +kernel
theorem tyJ2_ok : ∀ k, k < 0 → parseFieldDescriptor (TJ2 k).2.2.1 = some (tyJ2 k) := by decide +kernel
abbrev cJ2_getChar_3b067 : ByteArray := prog_18_method_5_code
def yJ2_getChar_3b067 : MethodName := ⟨RJ2, "getChar", "([BI)C"⟩
abbrev cJ2_length_9d52b : ByteArray := prog_18_method_6_code
def yJ2_length_9d52b : MethodName := ⟨RJ2, "length", "([B)I"⟩
abbrev cJ2_indexOf_4cfef : ByteArray := prog_18_method_40_code
def yJ2_indexOf_4cfef : MethodName := ⟨RJ2, "indexOf", "([BIII)I"⟩
abbrev cJ2_indexOfChar_4cfef : ByteArray := prog_18_method_47_code
def yJ2_indexOfChar_4cfef : MethodName := ⟨RJ2, "indexOfChar", "([BIII)I"⟩
abbrev cJ2_indexOfCharUnsafe_4cfef : ByteArray := prog_18_method_48_code
def yJ2_indexOfCharUnsafe_4cfef : MethodName := ⟨RJ2, "indexOfCharUnsafe", "([BIII)I"⟩
abbrev cJ2_indexOfSupplementary_4cfef : ByteArray := prog_18_method_49_code
def yJ2_indexOfSupplementary_4cfef : MethodName := ⟨RJ2, "indexOfSupplementary", "([BIII)I"⟩
abbrev cJ2_charAt_3b067 : ByteArray := prog_18_method_83_code
def yJ2_charAt_3b067 : MethodName := ⟨RJ2, "charAt", "([BI)C"⟩
abbrev cJ2_checkIndex_2214a : ByteArray := prog_18_method_91_code
def yJ2_checkIndex_2214a : MethodName := ⟨RJ2, "checkIndex", "(I[B)V"⟩
abbrev cJ2_checkBoundsBeginEnd_d044e : ByteArray := prog_18_method_93_code
def yJ2_checkBoundsBeginEnd_d044e : MethodName := ⟨RJ2, "checkBoundsBeginEnd", "(II[B)V"⟩
def RJ10 : String := "java/lang/System"
def TJ10 : u_T := fun k => match k with
  | _ => ("", "", "", false)
def tyJ10 : Nat → FieldType := fun k => match k with
  | _ => .int
abbrev wsJ100 : List Cond := u_ws RJ10 TJ10 0
theorem nmJ10 : ∀ a, a < 0 → ∀ b, b < 0 → a ≠ b → (TJ10 a).2.1 ≠ (TJ10 b).2.1 := by decide +kernel
theorem tyJ10_ok : ∀ k, k < 0 → parseFieldDescriptor (TJ10 k).2.2.1 = some (tyJ10 k) := by decide +kernel
def RJ3 : String := "jdk/internal/util/Preconditions"
def TJ3 : u_T := fun k => match k with
  | _ => ("", "", "", false)
def tyJ3 : Nat → FieldType := fun k => match k with
  | _ => .int
abbrev wsJ30 : List Cond := u_ws RJ3 TJ3 0
theorem nmJ3 : ∀ a, a < 0 → ∀ b, b < 0 → a ≠ b → (TJ3 a).2.1 ≠ (TJ3 b).2.1 := by decide +kernel
theorem tyJ3_ok : ∀ k, k < 0 → parseFieldDescriptor (TJ3 k).2.2.1 = some (tyJ3 k) := by decide +kernel
abbrev cJ3_checkIndex_8e157 : ByteArray := prog_20_method_11_code
def yJ3_checkIndex_8e157 : MethodName := ⟨RJ3, "checkIndex", "(IILjava/util/function/BiFunction;)I"⟩
abbrev cJ3_checkFromToIndex_8c36e : ByteArray := prog_20_method_12_code
def yJ3_checkFromToIndex_8c36e : MethodName := ⟨RJ3, "checkFromToIndex", "(IIILjava/util/function/BiFunction;)I"⟩
def RL : String := "BoxOnARopeLaw"
abbrev cL_law : ByteArray := code
def yL_law : MethodName := ⟨RL, "law", "([I)Z"⟩
abbrev vwCl : List vw_C := [(RX0, TX0, 0), (RX1, TX1, 11), (RX2, TX2, 0), (RX3, TX3, 9), (RX4, TX4, 0), (RX5, TX5, 2), (RX6, TX6, 0), (RX7, TX7, 0), (RX8, TX8, 0), (RX9, TX9, 2), (RX10, TX10, 11), (RX11, TX11, 24)]
end
section
/-! THE WORDS: one list for every method: all of the tables that stay as they are while classes load -/
def ob_all : List Cond := lw_tbl.filter goodWord
theorem ob_allI {w : Cond} (i : Nat) (h : lw_tbl[i]? = some w) (hg : goodWord w = true) : w ∈ ob_all := List.mem_filter.mpr ⟨List.mem_of_getElem? h, hg⟩
theorem ob_all_tbl {w : Cond} (h : w ∈ ob_all) : w ∈ lw_tbl := (List.mem_filter.mp h).1
abbrev ob_ws (y : MethodName) (c : ByteArray) (n : Nat) (ret : Option FieldType) : List Cond := .code y c n ret :: ob_all
theorem ob_good {y : MethodName} {c : ByteArray} {n : Nat} {ret : Option FieldType} {big : List Cond} (hb : ∀ w ∈ ob_all, w ∈ big) (hc : Cond.code y c n ret ∈ ob_all) : GoodIn big (ob_ws y c n ret) := by
  intro w hw
  have h : w ∈ ob_all := by
    rcases List.mem_cons.mp hw with h | h
    · rw [h]; exact hc
    · exact h
  exact ⟨hb w h, good_of_word (List.mem_filter.mp h).2⟩
/-! THE WORLD OF ONE SIDE (the class, or the reference): its cells never change their addresses or shapes; what changes is σ : cell, place ↦ a number. -/
abbrev ob_St : Type := Nat → Nat → Int32
def ob_upA (σ : ob_St) (k : Nat) (f : Nat → Int32) : ob_St := fun k' => if k' = k then f else σ k'
def ob_up (σ : ob_St) (k j : Nat) (v : Int32) : ob_St := ob_upA σ k (upd (σ k) j v)
/-- a cell's shape: so many ints; an object of a class by its fields (a number, or a cell); a row of cells -/
abbrev ob_Sh : Type := Nat ⊕ ((Nat × List (Option Nat)) ⊕ List Nat)
/-- a side: how many cells, their shapes, their addresses -/
abbrev ob_WT : Type := Nat × (Nat → ob_Sh) × (Nat → Nat)
/-- what is the same for both sides: launch, class numbers, int[]'s and Plain[]'s class, the texts' addresses, two static rows -/
abbrev ob_GT : Type := Launch × va_G × ClassId × ClassId × (Nat → Nat) × (Nat → Nat) × Nat × Nat
/-- a method: name, words, bytes, locals, what it returns, room -/
abbrev ob_MI : Type := MethodName × List Cond × ByteArray × Nat × Option FieldType × Room
def ob_fv (ad : Nat → Nat) (f : Nat → Int32) : Nat → List (Option Nat) → List Value
  | _, [] => []
  | i, none :: l => .int (f i) :: ob_fv ad f (i + 1) l
  | i, some k :: l => .ref (ad k) :: ob_fv ad f (i + 1) l
def ob_cell (g : ob_GT) (w : ob_WT) (σ : ob_St) (k : Nat) : va_E := match w.2.1 k with
  | .inl n => .inl (g.2.2.1, n, .inl (σ k))
  | .inr (.inl o) => .inr (o.1, ob_fv w.2.2 (σ k) 0 o.2)
  | .inr (.inr ks) => .inl (g.2.2.2.1, ks.length, .inr (.inr (.inr (.inr (fun j => (ks[j]?).map w.2.2)))))
def ob_w (g : ob_GT) (w : ob_WT) (σ : ob_St) : va_W := (List.range w.1).map fun k => (w.2.2 k, ob_cell g w σ k)
theorem ob_w_get {g : ob_GT} {w : ob_WT} {σ : ob_St} {k : Nat} (h : k < w.1) : (ob_w g w σ)[k]? = some (w.2.2 k, ob_cell g w σ k) := by
  simp [ob_w, h]
theorem ob_w_set {g : ob_GT} {w : ob_WT} {σ σ' : ob_St} {k : Nat} {e : va_E} (h : k < w.1) (he : ob_cell g w σ' k = e) (ho : ∀ j, j ≠ k → σ' j = σ j) : (ob_w g w σ).set k (w.2.2 k, e) = ob_w g w σ' := by
  apply List.ext_getElem?
  intro i
  by_cases hi : i = k
  · subst hi
    rw [List.getElem?_set_self (by simp [ob_w, h]), ob_w_get h, he]
  · rw [List.getElem?_set_ne (fun q => hi q.symm)]
    by_cases h2 : i < w.1
    · rw [ob_w_get h2, ob_w_get h2]
      simp only [ob_cell, ho i hi]
    · have h3 : w.1 ≤ i := Nat.not_lt.mp h2
      rw [List.getElem?_eq_none (by simp [ob_w, h3]), List.getElem?_eq_none (by simp [ob_w, h3])]
theorem ob_upA_self (σ : ob_St) (k : Nat) (f : Nat → Int32) : ob_upA σ k f k = f := by simp [ob_upA]
theorem ob_upA_ne (σ : ob_St) (k : Nat) (f : Nat → Int32) {j : Nat} (h : j ≠ k) : ob_upA σ k f j = σ j := by simp [ob_upA, h]
theorem ob_cell_arr {g : ob_GT} {w : ob_WT} {σ : ob_St} {k n : Nat} (hs : w.2.1 k = .inl n) : ob_cell g w σ k = .inl (g.2.2.1, n, .inl (σ k)) := by
  simp only [ob_cell, hs]
theorem ob_cell_obj {g : ob_GT} {w : ob_WT} {σ : ob_St} {k ci : Nat} {fs : List (Option Nat)} (hs : w.2.1 k = .inr (.inl (ci, fs))) : ob_cell g w σ k = .inr (ci, ob_fv w.2.2 (σ k) 0 fs) := by
  simp only [ob_cell, hs]
theorem ob_cell_row {g : ob_GT} {w : ob_WT} {σ : ob_St} {k : Nat} {ks : List Nat} (hs : w.2.1 k = .inr (.inr ks)) : ob_cell g w σ k = .inl (g.2.2.2.1, ks.length, .inr (.inr (.inr (.inr (fun j => (ks[j]?).map w.2.2))))) := by
  simp only [ob_cell, hs]
theorem ob_fv_len (ad : Nat → Nat) (f : Nat → Int32) : ∀ (l : List (Option Nat)) (i : Nat), (ob_fv ad f i l).length = l.length := by
  intro l
  induction l with
  | nil => intro i; rfl
  | cons a l ih => intro i; cases a <;> simp [ob_fv, ih]
theorem ob_fv_int (ad : Nat → Nat) (f : Nat → Int32) : ∀ (l : List (Option Nat)) (i j : Nat), l[j]? = some none → (ob_fv ad f i l)[j]? = some (.int (f (i + j))) := by
  intro l
  induction l with
  | nil => intro i j h; simp at h
  | cons a l ih =>
    intro i j h
    cases j with
    | zero =>
      simp at h
      subst h
      simp [ob_fv]
    | succ j =>
      have h1 := ih (i + 1) j (by simpa using h)
      rw [show i + 1 + j = i + (j + 1) from by omega] at h1
      cases a <;> simpa [ob_fv] using h1
theorem ob_fv_ref (ad : Nat → Nat) (f : Nat → Int32) {k : Nat} : ∀ (l : List (Option Nat)) (i j : Nat), l[j]? = some (some k) → (ob_fv ad f i l)[j]? = some (.ref (ad k)) := by
  intro l
  induction l with
  | nil => intro i j h; simp at h
  | cons a l ih =>
    intro i j h
    cases j with
    | zero =>
      simp at h
      subst h
      simp [ob_fv]
    | succ j =>
      have h1 := ih (i + 1) j (by simpa using h)
      cases a <;> simpa [ob_fv] using h1
theorem ob_fv_congr (ad : Nat → Nat) {f f' : Nat → Int32} : ∀ (l : List (Option Nat)) (i : Nat), (∀ j, i ≤ j → f j = f' j) → ob_fv ad f i l = ob_fv ad f' i l := by
  intro l
  induction l with
  | nil => intro i h; rfl
  | cons a l ih =>
    intro i h
    have h1 := ih (i + 1) (fun j hj => h j (by omega))
    cases a <;> simp [ob_fv, h1, h i (Nat.le_refl i)]
theorem ob_fv_set (ad : Nat → Nat) (f : Nat → Int32) (v : Int32) : ∀ (l : List (Option Nat)) (i j : Nat), l[j]? = some none → ob_fv ad (upd f (i + j) v) i l = (ob_fv ad f i l).set j (.int v) := by
  intro l
  induction l with
  | nil => intro i j h; simp at h
  | cons a l ih =>
    intro i j h
    cases j with
    | zero =>
      simp at h
      subst h
      have h2 : ob_fv ad (upd f (i + 0) v) (i + 1) l = ob_fv ad f (i + 1) l := ob_fv_congr ad l (i + 1) (fun j hj => pk_un (by omega))
      simp only [ob_fv, h2, List.set_cons_zero]
      rw [show upd f (i + 0) v i = v from pk_us]
    | succ j =>
      have h1 := ih (i + 1) j (by simpa using h)
      rw [show i + 1 + j = i + (j + 1) from by omega] at h1
      cases a with
      | some k => simp [ob_fv, h1]
      | none =>
        simp only [ob_fv, h1, List.set_cons_succ]
        rw [show upd f (i + (j + 1)) v i = f i from pk_un (by omega)]
/-- the cells that a side may change: its own, and new ones -/
def ob_A (w : ob_WT) (sz : Nat) : Nat → Prop := fun q => (∃ k, k < w.1 ∧ q = w.2.2 k) ∨ sz ≤ q
abbrev ob_tys (g : ob_GT) : List (ClassId × FieldType) := [(g.2.2.1, .int), (g.2.2.2.1, .object "BoxOnARope$Plain")]
/-! TEXTS AND STATIC ROWS: seven texts (Telling's six forms, the kinds' letters), LEAST and GREATEST -/
def ob_tx (i : Nat) : List Int32 := match i with
  | 0 => [107, 48, 48, 48, 48, 48, 59]
  | 1 => [48, 48, 48, 48, 48, 48, 48, 59]
  | 2 => [48, 48, 48, 59]
  | 3 => [48, 59]
  | 4 => [48, 48, 59]
  | 5 => []
  | _ => [100, 115, 108, 107, 103, 97]
def ob_txl : List (List Int32) := [ob_tx 0, ob_tx 1, ob_tx 2, ob_tx 3, ob_tx 4, ob_tx 5, ob_tx 6]
def ob_txn : List Nat := [7, 8, 4, 2, 3, 0, 6]
def ob_least (j : Nat) : Int32 := match j with
  | 0 => 1
  | 3 => 1
  | _ => 0
def ob_great (j : Nat) : Int32 := match j with
  | 0 => 11
  | 1 => 9
  | 2 => 40
  | 3 => 20
  | 4 => 2
  | _ => 400
def ob_S1 (g : ob_GT) (A : Nat → Prop) (U : State) (H : Heap) : Prop := vk_S 7 ob_txn ob_txl g.2.2.2.2.1 g.2.2.2.2.2.1 A U H ∧ va_Z "java/lang/String" "COMPACT_STRINGS" "Z" (.int 1) A U H ∧ va_Zq "jdk/internal/util/Preconditions" "SIOOBE_FORMATTER" "Ljava/util/function/BiFunction;" A U H
def ob_S2 (g : ob_GT) (A : Nat → Prop) (U : State) (H : Heap) : Prop := va_Z "BoxOnARope" "LEAST" "[I" (.ref g.2.2.2.2.2.2.1) A U H ∧ va_T .int g.2.2.2.2.2.2.1 6 (fun j => .int (ob_least j)) A U H ∧ va_Z "BoxOnARope" "GREATEST" "[I" (.ref g.2.2.2.2.2.2.2) A U H ∧ va_T .int g.2.2.2.2.2.2.2 6 (fun j => .int (ob_great j)) A U H
def ob_S3 (g : ob_GT) (U : State) : Prop := (vk_R "BoxOnARope$Telling" 19 "k00000;" (g.2.2.2.2.1 0) U ∧ vk_R "BoxOnARope$Telling" 21 "0000000;" (g.2.2.2.2.1 1) U ∧ vk_R "BoxOnARope$Telling" 23 "000;" (g.2.2.2.2.1 2) U ∧ vk_R "BoxOnARope$Telling" 25 "0;" (g.2.2.2.2.1 3) U) ∧ (vk_R "BoxOnARope$Telling" 27 "00;" (g.2.2.2.2.1 4) U ∧ vk_R "BoxOnARope$Telling" 29 "" (g.2.2.2.2.1 5) U ∧ vk_R "BoxOnARope$Telling" 31 "dslkga" (g.2.2.2.2.1 6) U ∧ vk_R "BoxOnARopeModel" 84 "dslkga" (g.2.2.2.2.1 6) U) ∧ va_Nw (.fieldLinkNest "BoxOnARope$Kitchen" 53 "BoxOnARope" "LEAST" "[I" "BoxOnARope") U ∧ va_Nw (.fieldLinkNest "BoxOnARope$Kitchen" 56 "BoxOnARope" "GREATEST" "[I" "BoxOnARope") U ∧ va_Nw (.methodLinkNest "BoxOnARope$Kitchen" 50 ⟨"BoxOnARope", "isCourse", "(I)Z"⟩ "BoxOnARope") U
def ob_S (g : ob_GT) (A : Nat → Prop) (U : State) (H : Heap) : Prop := ob_S1 g A U H ∧ ob_S2 g A U H ∧ ob_S3 g U
theorem ob_S3.warm {g : ob_GT} {s U : State} (hW : s.WarmedH U.vm) (h : ob_S3 g s) : ob_S3 g U := by
  obtain ⟨⟨a1, a2, a3, a4⟩, ⟨a5, a6, a7, a8⟩, b1, b2, b3⟩ := h
  exact ⟨⟨a1.warm hW, a2.warm hW, a3.warm hW, a4.warm hW⟩, ⟨a5.warm hW, a6.warm hW, a7.warm hW, a8.warm hW⟩, va_Nw.warmF hW b1, va_Nw.warmF hW b2, va_Nw.warmM hW b3⟩
theorem ob_S3.same {g : ob_GT} {u U : State} (hv : U.vm = u.vm) (h : ob_S3 g u) : ob_S3 g U := by
  obtain ⟨⟨a1, a2, a3, a4⟩, ⟨a5, a6, a7, a8⟩, b1, b2, b3⟩ := h
  exact ⟨⟨a1.same hv, a2.same hv, a3.same hv, a4.same hv⟩, ⟨a5.same hv, a6.same hv, a7.same hv, a8.same hv⟩, va_Nw.same rfl hv.symm b1, va_Nw.same rfl hv.symm b2, va_Nw.same rfl hv.symm b3⟩
theorem ob_S.go {g : ob_GT} {A B : Nat → Prop} {s U : State} {H0 H : Heap} (h : ob_S g A s H0) (hv : s.vm.Alike U.vm) (h3 : ob_S3 g U) (hq : ∀ a : Nat, a < H0.size → ¬ A a → H[a]? = H0[a]?) (hAB : ∀ q, B q → A q) : ob_S g B U H := by
  obtain ⟨⟨a1, a2, a3⟩, ⟨b1, b2, b3, b4⟩, -⟩ := h
  exact ⟨⟨((a1.moved hv).kept hq).narrow hAB, ((a2.moved hv).kept hq).narrow hAB, ((a3.moved hv).kept hq).narrow hAB⟩, ⟨((b1.moved hv).kept hq).narrow hAB, ((b2.moved hv).kept hq).narrow hAB, ((b3.moved hv).kept hq).narrow hAB, ((b4.moved hv).kept hq).narrow hAB⟩, h3⟩
/-! A CONTRACT: from the side's world at σ, with these arguments, the method answers ov and leaves it at σ'; it makes nothing new, and touches nothing else. -/
def ob_Pre (g : ob_GT) (w : ob_WT) (σ : ob_St) (sz : Nat) (U : State) : Prop := U.heap.size = sz ∧ va_P g.2.1 vwCl (ob_w g w σ) U.heap ∧ va_K g.2.1 vwCl (ob_tys g) U ∧ va_D (fun _ => True) (ob_w g w σ) ∧ ob_S g (ob_A w sz) U U.heap
def ob_Q (g : ob_GT) (w : ob_WT) (ov : Option Value) (σ : ob_St) : Array Value → State → Outcome → State → Prop := fun _ st oc t => (oc = .returned ov ∧ va_P g.2.1 vwCl (ob_w g w σ) t.heap ∧ va_K g.2.1 vwCl (ob_tys g) t ∧ va_D (ob_A w st.heap.size) (ob_w g w σ)) ∧ va_F (ob_A w st.heap.size) st t
def ob_CT (g : ob_GT) (w : ob_WT) (mi : ob_MI) (as : List Value) (σ : ob_St) (ov : Option Value) (σ' : ob_St) : Prop :=
  ∀ sz : Nat, Met g.1 mi.1 mi.2.1 mi.2.2.2.2.2 (va_Pc as (ob_Pre g w σ sz)) (ob_Q g w ov σ') 0 0 (ob_A w sz)
/-- what is fixed while a method runs -/
def ob_Cx (g : ob_GT) (w : ob_WT) (mi : ob_MI) (p : Program) (s : State) (m : MethodId) (args : Array Value) (meth : Method) (c : Code) : Prop :=
  p.tables.exec = Jvm.exec ∧ c.code = mi.2.2.1 ∧ c.maxLocals = mi.2.2.2.1 ∧ meth.sig.returnType = mi.2.2.2.2.1 ∧ s.vm.findClass mi.1.cls = some m.cls ∧ (∀ x ∈ mi.2.1, x.before args s = true) ∧ meth.locks = false ∧ va_K g.2.1 vwCl (ob_tys g) s ∧ ob_S g (ob_A w s.heap.size) s s.heap
/-- the world, at a point of a method begun in s -/
def ob_Wd (g : ob_GT) (w : ob_WT) (σ : ob_St) (s : State) (H : Heap) (locs : List Loc) : Prop :=
  va_P g.2.1 vwCl (ob_w g w σ) H ∧ va_D (ob_A w s.heap.size) (ob_w g w σ) ∧ va_S (ob_A w s.heap.size) s.heap H locs
/-- from here (pc, locals, stack, the world at σ) the method comes to its end with ov and σ' -/
def ob_V (g : ob_GT) (w : ob_WT) (mi : ob_MI) (ov : Option Value) (σ' : ob_St) (σ : ob_St) (pc : Nat) (lv : List (Nat × Value)) (st : List Value) : Prop :=
  ∀ (p : Program) (e : Env) (s : State) (m : MethodId) (args : Array Value) (below : List Frame) (meth : Method) (c : Code), ob_Cx g w mi p s m args meth c → ∀ (H : Heap) (locs : List Loc) (ls : Array Slot), ob_Wd g w σ s H locs → lv_has ls mi.2.2.2.1 lv →
    W p g.1 e mi.2.2.2.2.2 s m args below meth c H locs 0 0 (MQ below (ob_Q g w ov σ') args s 0 0 (ob_A w s.heap.size)) (F0 m pc ls st)
set_option maxHeartbeats 4000000 in
theorem ob_ct {g : ob_GT} {w : ob_WT} {mi : ob_MI} {as : List Value} {σ σ' : ob_St} {ov : Option Value} (hy : plainName mi.1.cls = true) (hw : mi.2.1 = Cond.code mi.1 mi.2.2.1 mi.2.2.2.1 mi.2.2.2.2.1 :: mi.2.1.tail) (hlen : (lg_sl as).length ≤ mi.2.2.2.1)
    (hV : ob_V g w mi ov σ' σ 0 (lv_args 0 as) []) : ob_CT g w mi as σ ov σ' := by
  intro sz
  refine Met.ofW (cc := mi.2.2.1) (maxL := mi.2.2.2.1) (ret := mi.2.2.2.2.1) hy hw ?_
  intro p e s m args below meth c s₁ B hml hv
  obtain ⟨rfl, hsz, hP, hK, hD0, hS0⟩ := hv
  have hts := atoms_spec (ws := mi.2.1) B.pre
  have hown : s.vm.findClass mi.1.cls = some m.cls := findClass_of_methodNamed B.named
  subst hsz
  rw [lg_entry_eq]
  refine hV p e s m _ below meth c ⟨B.exec, B.bytes, hml, B.returns, hown, hts, B.notSynchronized, hK, hS0⟩ s.heap [] _ ⟨hP, ⟨hD0.1, fun k q hk => Or.inl ?_⟩, va_S.rf⟩ (lv_entry as hlen)
  have h1 : (ob_w g w σ)[k]? = some q := hk
  have h2 : k < w.1 := by
    rcases Nat.lt_or_ge k w.1 with z | z
    · exact z
    · rw [List.getElem?_eq_none (by simp [ob_w, z])] at h1
      cases h1
  rw [ob_w_get h2] at h1
  have h3 := Option.some.inj h1
  exact ⟨k, h2, by rw [← h3]⟩
section OBV
variable {g : ob_GT} {w : ob_WT} {mi : ob_MI} {ov : Option Value} {σ σ' : ob_St} {pc : Nat} {lv : List (Nat × Value)} {st : List Value}
def ob_nm {α : Type} (x : Int32) (K : Int32 → Option α) : Option α := K x
def ob_bd {β α : Type} (x : Option (β × ob_St)) (K : β → ob_St → Option α) : Option α := match x with
  | none => none
  | some q => K q.1 q.2
def ob_in (i : Int32) (n : Nat) : Bool := !(decide (i < 0)) && decide (i.toNatClampNeg < n)
def ob_ld {α : Type} (σ : ob_St) (k n : Nat) (i : Int32) (K : Int32 → Option α) : Option α := if ob_in i n = true then K (σ k i.toNatClampNeg) else none
def ob_sd {α : Type} (σ : ob_St) (k n : Nat) (i x : Int32) (K : ob_St → Option α) : Option α := if ob_in i n = true then K (ob_up σ k i.toNatClampNeg x) else none
def ob_pf {α : Type} (σ : ob_St) (k j : Nat) (x : Int32) (K : ob_St → Option α) : Option α := K (ob_up σ k j x)
def ob_cp {α : Type} (σ : ob_St) (k0 k1 n : Nat) (K : ob_St → Option α) : Option α := K (ob_upA σ k1 (va_cpy (σ k0) (σ k1) 0 0 n))
def ob_rb (x : Int32) (σ : ob_St) : Option (Int32 × ob_St) := if x = 0 ∨ x = 1 then some (x, σ) else none
def ob_max (x y : Int32) : Int32 := if x < y then y else x
def ob_min (x y : Int32) : Int32 := if y < x then y else x
def ob_rem (x y : Int32) : Int32 := x - x / y * y
theorem ob_bdE {β α : Type} {x : Option (β × ob_St)} {K : β → ob_St → Option α} {r : α} (h : ob_bd x K = some r) : ∃ q σ1, x = some (q, σ1) ∧ K q σ1 = some r := by
  cases x with
  | none => cases h
  | some q => exact ⟨q.1, q.2, rfl, h⟩
theorem ob_in_vp {i : Int32} {n : Nat} (h : ob_in i n = true) : vp_in i n := by
  intro q
  simp only [ob_in, Bool.and_eq_true, Bool.not_eq_true', decide_eq_false_iff_not, decide_eq_true_eq] at h
  rcases q with q | q
  · exact h.1 q
  · omega
theorem ob_ifs {α : Type} {c : Prop} {dc : Decidable c} {A : Option α} {r : α} (h : (if c then A else none) = some r) : c ∧ A = some r := by
  by_cases hc : c
  · rw [if_pos hc] at h; exact ⟨hc, h⟩
  · rw [if_neg hc] at h; cases h

theorem vv_iconst {n : Int} (hd : decode mi.2.2.1 pc = .ok (.iconst n, 1)) (v : Int32) (hv : Int32.ofInt n = v) (pc' : Nat) (hp : pc + 1 = pc') (k : ob_V g w mi ov σ' σ pc' lv (.int v :: st)) : ob_V g w mi ov σ' σ pc lv st := by
  subst hp
  intro p e s m args below meth c C H locs ls hW hl
  exact lv_iconst C.1 C.2.1 hd hv (k p e s m args below meth c C H locs ls hW hl)

theorem vv_bipush {n : Int} (hd : decode mi.2.2.1 pc = .ok (.bipush n, 2)) (v : Int32) (hv : (Int8.ofInt n).toInt32 = v) (pc' : Nat) (hp : pc + 2 = pc') (k : ob_V g w mi ov σ' σ pc' lv (.int v :: st)) : ob_V g w mi ov σ' σ pc lv st := by
  subst hp
  intro p e s m args below meth c C H locs ls hW hl
  exact lv_bipush C.1 C.2.1 hd hv (k p e s m args below meth c C H locs ls hW hl)

theorem vv_sipush {n : Int} (hd : decode mi.2.2.1 pc = .ok (.sipush n, 3)) (v : Int32) (hv : (Int16.ofInt n).toInt32 = v) (pc' : Nat) (hp : pc + 3 = pc') (k : ob_V g w mi ov σ' σ pc' lv (.int v :: st)) : ob_V g w mi ov σ' σ pc lv st := by
  subst hp
  intro p e s m args below meth c C H locs ls hW hl
  exact lv_sipush C.1 C.2.1 hd hv (k p e s m args below meth c C H locs ls hW hl)

theorem vv_ldc {idx : Nat} (hd : decode mi.2.2.1 pc = .ok (.ldc idx, 2)) (v : Int32) (hm : Cond.constant mi.1.cls idx v ∈ mi.2.1) (pc' : Nat) (hp : pc + 2 = pc') (k : ob_V g w mi ov σ' σ pc' lv (.int v :: st)) : ob_V g w mi ov σ' σ pc lv st := by
  subst hp
  intro p e s m args below meth c C H locs ls hW hl
  exact lv_ldc C.1 C.2.1 C.2.2.2.2.1 (C.2.2.2.2.2.1 _ hm) hd (k p e s m args below meth c C H locs ls hW hl)

theorem vv_ldcw {idx : Nat} (hd : decode mi.2.2.1 pc = .ok (.ldc_w idx, 3)) (v : Int32) (hm : Cond.constant mi.1.cls idx v ∈ mi.2.1) (pc' : Nat) (hp : pc + 3 = pc') (k : ob_V g w mi ov σ' σ pc' lv (.int v :: st)) : ob_V g w mi ov σ' σ pc lv st := by
  subst hp
  intro p e s m args below meth c C H locs ls hW hl
  exact lv_ldcw C.1 C.2.1 C.2.2.2.2.1 (C.2.2.2.2.2.1 _ hm) hd (k p e s m args below meth c C H locs ls hW hl)

theorem vv_ldcS {idx : Nat} (hd : decode mi.2.2.1 pc = .ok (.ldc idx, 2)) (i : Nat) (tx : String) (hm : ∀ u : State, ob_S3 g u → vk_R mi.1.cls idx tx (g.2.2.2.2.1 i) u) (pc' : Nat) (hp : pc + 2 = pc') (k : ob_V g w mi ov σ' σ pc' lv (.ref (g.2.2.2.2.1 i) :: st)) : ob_V g w mi ov σ' σ pc lv st := by
  subst hp
  intro p e s m args below meth c C H locs ls hW hl
  exact va_ldcS C.1 C.2.1 C.2.2.2.2.1 (hm s C.2.2.2.2.2.2.2.2.2.2) hd (k p e s m args below meth c C H locs ls hW hl)

theorem vv_iload_n {q : Fin 4} {i : Nat} {x : Int32} (hd : decode mi.2.2.1 pc = .ok (.iload_n q, 1)) (at' : Nat) (hi : (q : Nat) = i) (hk : lv[at']? = some (i, .int x)) (pc' : Nat) (hp : pc + 1 = pc') (k : ob_V g w mi ov σ' σ pc' lv (.int x :: st)) : ob_V g w mi ov σ' σ pc lv st := by
  subst hp
  intro p e s m args below meth c C H locs ls hW hl
  exact lv_iload_n C.1 C.2.1 hd hi (lv_at hl at' hk) (k p e s m args below meth c C H locs ls hW hl)

theorem vv_iload {i : Nat} {x : Int32} (hd : decode mi.2.2.1 pc = .ok (.iload i, 2)) (at' : Nat) (hk : lv[at']? = some (i, .int x)) (pc' : Nat) (hp : pc + 2 = pc') (k : ob_V g w mi ov σ' σ pc' lv (.int x :: st)) : ob_V g w mi ov σ' σ pc lv st := by
  subst hp
  intro p e s m args below meth c C H locs ls hW hl
  exact lv_iload C.1 C.2.1 hd (lv_at hl at' hk) (k p e s m args below meth c C H locs ls hW hl)

theorem vv_istore_n {q : Fin 4} {i : Nat} {x : Int32} (hd : decode mi.2.2.1 pc = .ok (.istore_n q, 1)) (lv' : List (Nat × Value)) (hi : (q : Nat) = i) (hn : i < mi.2.2.2.1) (hv : (i, Value.int x) :: lv.filter (fun q => !(q.1 == i) && !(q.1 + 1 == i && q.2.category == 2)) = lv') (pc' : Nat) (hp : pc + 1 = pc') (k : ob_V g w mi ov σ' σ pc' lv' st) : ob_V g w mi ov σ' σ pc lv (.int x :: st) := by
  subst hp
  intro p e s m args below meth c C H locs ls hW hl
  exact lv_istore_n C.1 C.2.1 hd hi hl hn hv (fun ls' hl' => k p e s m args below meth c C H locs ls' hW hl')

theorem vv_istore {i : Nat} {x : Int32} (hd : decode mi.2.2.1 pc = .ok (.istore i, 2)) (lv' : List (Nat × Value)) (hn : i < mi.2.2.2.1) (hv : (i, Value.int x) :: lv.filter (fun q => !(q.1 == i) && !(q.1 + 1 == i && q.2.category == 2)) = lv') (pc' : Nat) (hp : pc + 2 = pc') (k : ob_V g w mi ov σ' σ pc' lv' st) : ob_V g w mi ov σ' σ pc lv (.int x :: st) := by
  subst hp
  intro p e s m args below meth c C H locs ls hW hl
  exact lv_istore C.1 C.2.1 hd hl hn hv (fun ls' hl' => k p e s m args below meth c C H locs ls' hW hl')

theorem vv_aload_n {q : Fin 4} {i : Nat} {x : Nat} (hd : decode mi.2.2.1 pc = .ok (.aload_n q, 1)) (at' : Nat) (hi : (q : Nat) = i) (hk : lv[at']? = some (i, .ref x)) (pc' : Nat) (hp : pc + 1 = pc') (k : ob_V g w mi ov σ' σ pc' lv (.ref x :: st)) : ob_V g w mi ov σ' σ pc lv st := by
  subst hp
  intro p e s m args below meth c C H locs ls hW hl
  exact lv_aload_n C.1 C.2.1 hd hi (lv_at hl at' hk) (k p e s m args below meth c C H locs ls hW hl)

theorem vv_aload {i : Nat} {x : Nat} (hd : decode mi.2.2.1 pc = .ok (.aload i, 2)) (at' : Nat) (hk : lv[at']? = some (i, .ref x)) (pc' : Nat) (hp : pc + 2 = pc') (k : ob_V g w mi ov σ' σ pc' lv (.ref x :: st)) : ob_V g w mi ov σ' σ pc lv st := by
  subst hp
  intro p e s m args below meth c C H locs ls hW hl
  exact lv_aload C.1 C.2.1 hd (lv_at hl at' hk) (k p e s m args below meth c C H locs ls hW hl)

theorem vv_astore_n {q : Fin 4} {i : Nat} {x : Nat} (hd : decode mi.2.2.1 pc = .ok (.astore_n q, 1)) (lv' : List (Nat × Value)) (hi : (q : Nat) = i) (hn : i < mi.2.2.2.1) (hv : (i, Value.ref x) :: lv.filter (fun q => !(q.1 == i) && !(q.1 + 1 == i && q.2.category == 2)) = lv') (pc' : Nat) (hp : pc + 1 = pc') (k : ob_V g w mi ov σ' σ pc' lv' st) : ob_V g w mi ov σ' σ pc lv (.ref x :: st) := by
  subst hp
  intro p e s m args below meth c C H locs ls hW hl
  exact lv_astore_n C.1 C.2.1 hd hi hl hn hv (fun ls' hl' => k p e s m args below meth c C H locs ls' hW hl')

theorem vv_astore {i : Nat} {x : Nat} (hd : decode mi.2.2.1 pc = .ok (.astore i, 2)) (lv' : List (Nat × Value)) (hn : i < mi.2.2.2.1) (hv : (i, Value.ref x) :: lv.filter (fun q => !(q.1 == i) && !(q.1 + 1 == i && q.2.category == 2)) = lv') (pc' : Nat) (hp : pc + 2 = pc') (k : ob_V g w mi ov σ' σ pc' lv' st) : ob_V g w mi ov σ' σ pc lv (.ref x :: st) := by
  subst hp
  intro p e s m args below meth c C H locs ls hW hl
  exact lv_astore C.1 C.2.1 hd hl hn hv (fun ls' hl' => k p e s m args below meth c C H locs ls' hW hl')

theorem vv_iinc {i : Nat} {n : Int} {x : Int32} (hd : decode mi.2.2.1 pc = .ok (.iinc i n, 3)) (v : Int32) (at' : Nat) (lv' : List (Nat × Value)) (hk : lv[at']? = some (i, .int x)) (hv : x + Int32.ofInt n = v) (hn : i < mi.2.2.2.1) (hl9 : (i, Value.int v) :: lv.filter (fun q => !(q.1 == i) && !(q.1 + 1 == i && q.2.category == 2)) = lv') (pc' : Nat) (hp : pc + 3 = pc') (k : ob_V g w mi ov σ' σ pc' lv' st) : ob_V g w mi ov σ' σ pc lv st := by
  subst hp
  intro p e s m args below meth c C H locs ls hW hl
  exact lv_iinc C.1 C.2.1 hd hl hk hv hn hl9 (fun ls' hl' => k p e s m args below meth c C H locs ls' hW hl')

theorem vv_iadd {x y : Int32}(hd : decode mi.2.2.1 pc = .ok (.iadd, 1))  (pc' : Nat) (hp : pc + 1 = pc') (k : ob_V g w mi ov σ' σ pc' lv (.int (x + y) :: st)) : ob_V g w mi ov σ' σ pc lv (.int y :: .int x :: st) := by
  subst hp
  intro p e s m args below meth c C H locs ls hW hl
  exact lv_iadd C.1 C.2.1 hd (k p e s m args below meth c C H locs ls hW hl)

theorem vv_isub {x y : Int32}(hd : decode mi.2.2.1 pc = .ok (.isub, 1))  (pc' : Nat) (hp : pc + 1 = pc') (k : ob_V g w mi ov σ' σ pc' lv (.int (x - y) :: st)) : ob_V g w mi ov σ' σ pc lv (.int y :: .int x :: st) := by
  subst hp
  intro p e s m args below meth c C H locs ls hW hl
  exact lv_isub C.1 C.2.1 hd (k p e s m args below meth c C H locs ls hW hl)

theorem vv_imul {x y : Int32}(hd : decode mi.2.2.1 pc = .ok (.imul, 1))  (pc' : Nat) (hp : pc + 1 = pc') (k : ob_V g w mi ov σ' σ pc' lv (.int (x * y) :: st)) : ob_V g w mi ov σ' σ pc lv (.int y :: .int x :: st) := by
  subst hp
  intro p e s m args below meth c C H locs ls hW hl
  exact lv_imul C.1 C.2.1 hd (k p e s m args below meth c C H locs ls hW hl)

theorem vv_iand {x y : Int32}(hd : decode mi.2.2.1 pc = .ok (.iand, 1))  (pc' : Nat) (hp : pc + 1 = pc') (k : ob_V g w mi ov σ' σ pc' lv (.int (x &&& y) :: st)) : ob_V g w mi ov σ' σ pc lv (.int y :: .int x :: st) := by
  subst hp
  intro p e s m args below meth c C H locs ls hW hl
  exact lv_iand C.1 C.2.1 hd (k p e s m args below meth c C H locs ls hW hl)

theorem vv_ior {x y : Int32}(hd : decode mi.2.2.1 pc = .ok (.ior, 1))  (pc' : Nat) (hp : pc + 1 = pc') (k : ob_V g w mi ov σ' σ pc' lv (.int (x ||| y) :: st)) : ob_V g w mi ov σ' σ pc lv (.int y :: .int x :: st) := by
  subst hp
  intro p e s m args below meth c C H locs ls hW hl
  exact lv_ior C.1 C.2.1 hd (k p e s m args below meth c C H locs ls hW hl)

theorem vv_ishl {x y : Int32}(hd : decode mi.2.2.1 pc = .ok (.ishl, 1))  (pc' : Nat) (hp : pc + 1 = pc') (k : ob_V g w mi ov σ' σ pc' lv (.int (x <<< (y &&& 31)) :: st)) : ob_V g w mi ov σ' σ pc lv (.int y :: .int x :: st) := by
  subst hp
  intro p e s m args below meth c C H locs ls hW hl
  exact lv_ishl C.1 C.2.1 hd (k p e s m args below meth c C H locs ls hW hl)

theorem vv_ishr {x y : Int32}(hd : decode mi.2.2.1 pc = .ok (.ishr, 1))  (pc' : Nat) (hp : pc + 1 = pc') (k : ob_V g w mi ov σ' σ pc' lv (.int (x >>> (y &&& 31)) :: st)) : ob_V g w mi ov σ' σ pc lv (.int y :: .int x :: st) := by
  subst hp
  intro p e s m args below meth c C H locs ls hW hl
  exact lv_ishr C.1 C.2.1 hd (k p e s m args below meth c C H locs ls hW hl)

theorem vv_idiv {x y : Int32} (hd : decode mi.2.2.1 pc = .ok (.idiv, 1)) (hne : ¬ y = 0) (pc' : Nat) (hp : pc + 1 = pc') (k : ob_V g w mi ov σ' σ pc' lv (.int (x / y) :: st)) : ob_V g w mi ov σ' σ pc lv (.int y :: .int x :: st) := by
  subst hp
  intro p e s m args below meth c C H locs ls hW hl
  exact lv_idiv C.1 C.2.1 hd hne (k p e s m args below meth c C H locs ls hW hl)

theorem vv_irem {x y : Int32} (hd : decode mi.2.2.1 pc = .ok (.irem, 1)) (hne : ¬ y = 0) (pc' : Nat) (hp : pc + 1 = pc') (k : ob_V g w mi ov σ' σ pc' lv (.int (ob_rem x y) :: st)) : ob_V g w mi ov σ' σ pc lv (.int y :: .int x :: st) := by
  subst hp
  intro p e s m args below meth c C H locs ls hW hl
  exact lv_irem C.1 C.2.1 hd hne (k p e s m args below meth c C H locs ls hW hl)

theorem vv_ineg {x : Int32}(hd : decode mi.2.2.1 pc = .ok (.ineg, 1))  (pc' : Nat) (hp : pc + 1 = pc') (k : ob_V g w mi ov σ' σ pc' lv (.int (-x) :: st)) : ob_V g w mi ov σ' σ pc lv (.int x :: st) := by
  subst hp
  intro p e s m args below meth c C H locs ls hW hl
  exact lv_ineg C.1 C.2.1 hd (k p e s m args below meth c C H locs ls hW hl)

theorem vv_i2c {x : Int32}(hd : decode mi.2.2.1 pc = .ok (.i2c, 1))  (pc' : Nat) (hp : pc + 1 = pc') (k : ob_V g w mi ov σ' σ pc' lv (.int (x.toUInt32 % 65536).toInt32 :: st)) : ob_V g w mi ov σ' σ pc lv (.int x :: st) := by
  subst hp
  intro p e s m args below meth c C H locs ls hW hl
  exact lv_i2c C.1 C.2.1 hd rfl (k p e s m args below meth c C H locs ls hW hl)

theorem vv_i2b {x : Int32}(hd : decode mi.2.2.1 pc = .ok (.i2b, 1))  (pc' : Nat) (hp : pc + 1 = pc') (k : ob_V g w mi ov σ' σ pc' lv (.int x.toInt8.toInt32 :: st)) : ob_V g w mi ov σ' σ pc lv (.int x :: st) := by
  subst hp
  intro p e s m args below meth c C H locs ls hW hl
  exact lv_i2b C.1 C.2.1 hd rfl (k p e s m args below meth c C H locs ls hW hl)

theorem vv_dup {a : Value} (hd : decode mi.2.2.1 pc = .ok (.dup, 1)) (ha : a.category = 1) (pc' : Nat) (hp : pc + 1 = pc') (k : ob_V g w mi ov σ' σ pc' lv (a :: a :: st)) : ob_V g w mi ov σ' σ pc lv (a :: st) := by
  subst hp
  intro p e s m args below meth c C H locs ls hW hl
  exact lv_dup C.1 C.2.1 hd ha (k p e s m args below meth c C H locs ls hW hl)

theorem vv_pop {a : Value} (hd : decode mi.2.2.1 pc = .ok (.pop, 1)) (ha : a.category = 1) (pc' : Nat) (hp : pc + 1 = pc') (k : ob_V g w mi ov σ' σ pc' lv st) : ob_V g w mi ov σ' σ pc lv (a :: st) := by
  subst hp
  intro p e s m args below meth c C H locs ls hW hl
  exact lv_pop C.1 C.2.1 hd ha (k p e s m args below meth c C H locs ls hW hl)

theorem vv_dup_x1 {a b : Value} (hd : decode mi.2.2.1 pc = .ok (.dup_x1, 1)) (ha : a.category = 1) (hb : b.category = 1) (pc' : Nat) (hp : pc + 1 = pc') (k : ob_V g w mi ov σ' σ pc' lv (a :: b :: a :: st)) : ob_V g w mi ov σ' σ pc lv (a :: b :: st) := by
  subst hp
  intro p e s m args below meth c C H locs ls hW hl
  exact lv_dup_x1 C.1 C.2.1 hd ha hb (k p e s m args below meth c C H locs ls hW hl)

theorem vv_dup_x2 {a b d : Value} (hd : decode mi.2.2.1 pc = .ok (.dup_x2, 1)) (ha : a.category = 1) (hb : b.category = 1) (hd9 : d.category = 1) (pc' : Nat) (hp : pc + 1 = pc') (k : ob_V g w mi ov σ' σ pc' lv (a :: b :: d :: a :: st)) : ob_V g w mi ov σ' σ pc lv (a :: b :: d :: st) := by
  subst hp
  intro p e s m args below meth c C H locs ls hW hl
  exact lv_dup_x2 C.1 C.2.1 hd ha hb hd9 (k p e s m args below meth c C H locs ls hW hl)

theorem vv_dup2 {a b : Value} (hd : decode mi.2.2.1 pc = .ok (.dup2, 1)) (ha : a.category = 1) (hb : b.category = 1) (pc' : Nat) (hp : pc + 1 = pc') (k : ob_V g w mi ov σ' σ pc' lv (a :: b :: a :: b :: st)) : ob_V g w mi ov σ' σ pc lv (a :: b :: st) := by
  subst hp
  intro p e s m args below meth c C H locs ls hW hl
  exact lv_dup2_11 C.1 C.2.1 hd ha hb (k p e s m args below meth c C H locs ls hW hl)

theorem vv_goto {off : Int} (hd : decode mi.2.2.1 pc = .ok (.goto off, 3)) (tgt : Nat) (ht : (pc : Int) + off = (tgt : Int)) (k : ob_V g w mi ov σ' σ tgt lv st) : ob_V g w mi ov σ' σ pc lv st := by
  intro p e s m args below meth c C H locs ls hW hl
  exact lv_goto C.1 C.2.1 hd ht (k p e s m args below meth c C H locs ls hW hl)

theorem vv_if_eq {α : Type} {r : α} {A B : Option α} {x : Int32} {off : Int} (hd : decode mi.2.2.1 pc = .ok (.ifCond .eq off, 3)) (tgt pc' : Nat) (ht : (pc : Int) + off = (tgt : Int)) (hp : pc + 3 = pc') (hf : (if x = 0 then A else B) = some r) (kt : A = some r → ob_V g w mi ov σ' σ tgt lv st) (kf : B = some r → ob_V g w mi ov σ' σ pc'  lv st) : ob_V g w mi ov σ' σ pc lv (.int x :: st) := by
  subst hp
  intro p e s m args below meth c C H locs ls hW hl
  refine lv_if_eq C.1 C.2.1 hd ht (fun h => ?_) (fun h => ?_)
  · rw [if_pos h] at hf; exact kt hf p e s m args below meth c C H locs ls hW hl
  · rw [if_neg h] at hf; exact kf hf p e s m args below meth c C H locs ls hW hl

theorem vv_if_ne {α : Type} {r : α} {A B : Option α} {x : Int32} {off : Int} (hd : decode mi.2.2.1 pc = .ok (.ifCond .ne off, 3)) (tgt pc' : Nat) (ht : (pc : Int) + off = (tgt : Int)) (hp : pc + 3 = pc') (hf : (if x = 0 then B else A) = some r) (kt : A = some r → ob_V g w mi ov σ' σ tgt lv st) (kf : B = some r → ob_V g w mi ov σ' σ pc'  lv st) : ob_V g w mi ov σ' σ pc lv (.int x :: st) := by
  subst hp
  intro p e s m args below meth c C H locs ls hW hl
  refine lv_if_ne C.1 C.2.1 hd ht (fun h => ?_) (fun h => ?_)
  · rw [if_neg h] at hf; exact kt hf p e s m args below meth c C H locs ls hW hl
  · rw [if_pos h] at hf; exact kf hf p e s m args below meth c C H locs ls hW hl

theorem vv_if_lt {α : Type} {r : α} {A B : Option α} {x : Int32} {off : Int} (hd : decode mi.2.2.1 pc = .ok (.ifCond .lt off, 3)) (tgt pc' : Nat) (ht : (pc : Int) + off = (tgt : Int)) (hp : pc + 3 = pc') (hf : (if x < 0 then A else B) = some r) (kt : A = some r → ob_V g w mi ov σ' σ tgt lv st) (kf : B = some r → ob_V g w mi ov σ' σ pc'  lv st) : ob_V g w mi ov σ' σ pc lv (.int x :: st) := by
  subst hp
  intro p e s m args below meth c C H locs ls hW hl
  refine lv_if_lt C.1 C.2.1 hd ht (fun h => ?_) (fun h => ?_)
  · rw [if_pos h] at hf; exact kt hf p e s m args below meth c C H locs ls hW hl
  · rw [if_neg h] at hf; exact kf hf p e s m args below meth c C H locs ls hW hl

theorem vv_if_ge {α : Type} {r : α} {A B : Option α} {x : Int32} {off : Int} (hd : decode mi.2.2.1 pc = .ok (.ifCond .ge off, 3)) (tgt pc' : Nat) (ht : (pc : Int) + off = (tgt : Int)) (hp : pc + 3 = pc') (hf : (if 0 ≤ x then A else B) = some r) (kt : A = some r → ob_V g w mi ov σ' σ tgt lv st) (kf : B = some r → ob_V g w mi ov σ' σ pc'  lv st) : ob_V g w mi ov σ' σ pc lv (.int x :: st) := by
  subst hp
  intro p e s m args below meth c C H locs ls hW hl
  refine lv_if_ge C.1 C.2.1 hd ht (fun h => ?_) (fun h => ?_)
  · rw [if_pos h] at hf; exact kt hf p e s m args below meth c C H locs ls hW hl
  · rw [if_neg h] at hf; exact kf hf p e s m args below meth c C H locs ls hW hl

theorem vv_if_gt {α : Type} {r : α} {A B : Option α} {x : Int32} {off : Int} (hd : decode mi.2.2.1 pc = .ok (.ifCond .gt off, 3)) (tgt pc' : Nat) (ht : (pc : Int) + off = (tgt : Int)) (hp : pc + 3 = pc') (hf : (if 0 < x then A else B) = some r) (kt : A = some r → ob_V g w mi ov σ' σ tgt lv st) (kf : B = some r → ob_V g w mi ov σ' σ pc'  lv st) : ob_V g w mi ov σ' σ pc lv (.int x :: st) := by
  subst hp
  intro p e s m args below meth c C H locs ls hW hl
  refine lv_if_gt C.1 C.2.1 hd ht (fun h => ?_) (fun h => ?_)
  · rw [if_pos h] at hf; exact kt hf p e s m args below meth c C H locs ls hW hl
  · rw [if_neg h] at hf; exact kf hf p e s m args below meth c C H locs ls hW hl

theorem vv_if_le {α : Type} {r : α} {A B : Option α} {x : Int32} {off : Int} (hd : decode mi.2.2.1 pc = .ok (.ifCond .le off, 3)) (tgt pc' : Nat) (ht : (pc : Int) + off = (tgt : Int)) (hp : pc + 3 = pc') (hf : (if x ≤ 0 then A else B) = some r) (kt : A = some r → ob_V g w mi ov σ' σ tgt lv st) (kf : B = some r → ob_V g w mi ov σ' σ pc'  lv st) : ob_V g w mi ov σ' σ pc lv (.int x :: st) := by
  subst hp
  intro p e s m args below meth c C H locs ls hW hl
  refine lv_if_le C.1 C.2.1 hd ht (fun h => ?_) (fun h => ?_)
  · rw [if_pos h] at hf; exact kt hf p e s m args below meth c C H locs ls hW hl
  · rw [if_neg h] at hf; exact kf hf p e s m args below meth c C H locs ls hW hl

theorem vv_icmp_eq {α : Type} {r : α} {A B : Option α} {x y : Int32} {off : Int} (hd : decode mi.2.2.1 pc = .ok (.if_icmp .eq off, 3)) (tgt pc' : Nat) (ht : (pc : Int) + off = (tgt : Int)) (hp : pc + 3 = pc') (hf : (if x = y then A else B) = some r) (kt : A = some r → ob_V g w mi ov σ' σ tgt lv st) (kf : B = some r → ob_V g w mi ov σ' σ pc'  lv st) : ob_V g w mi ov σ' σ pc lv (.int y :: .int x :: st) := by
  subst hp
  intro p e s m args below meth c C H locs ls hW hl
  refine lv_icmp_eq C.1 C.2.1 hd ht (fun h => ?_) (fun h => ?_)
  · rw [if_pos h] at hf; exact kt hf p e s m args below meth c C H locs ls hW hl
  · rw [if_neg h] at hf; exact kf hf p e s m args below meth c C H locs ls hW hl

theorem vv_icmp_ne {α : Type} {r : α} {A B : Option α} {x y : Int32} {off : Int} (hd : decode mi.2.2.1 pc = .ok (.if_icmp .ne off, 3)) (tgt pc' : Nat) (ht : (pc : Int) + off = (tgt : Int)) (hp : pc + 3 = pc') (hf : (if x = y then B else A) = some r) (kt : A = some r → ob_V g w mi ov σ' σ tgt lv st) (kf : B = some r → ob_V g w mi ov σ' σ pc'  lv st) : ob_V g w mi ov σ' σ pc lv (.int y :: .int x :: st) := by
  subst hp
  intro p e s m args below meth c C H locs ls hW hl
  refine lv_icmp_ne C.1 C.2.1 hd ht (fun h => ?_) (fun h => ?_)
  · rw [if_neg h] at hf; exact kt hf p e s m args below meth c C H locs ls hW hl
  · rw [if_pos h] at hf; exact kf hf p e s m args below meth c C H locs ls hW hl

theorem vv_icmp_lt {α : Type} {r : α} {A B : Option α} {x y : Int32} {off : Int} (hd : decode mi.2.2.1 pc = .ok (.if_icmp .lt off, 3)) (tgt pc' : Nat) (ht : (pc : Int) + off = (tgt : Int)) (hp : pc + 3 = pc') (hf : (if x < y then A else B) = some r) (kt : A = some r → ob_V g w mi ov σ' σ tgt lv st) (kf : B = some r → ob_V g w mi ov σ' σ pc'  lv st) : ob_V g w mi ov σ' σ pc lv (.int y :: .int x :: st) := by
  subst hp
  intro p e s m args below meth c C H locs ls hW hl
  refine lv_icmp_lt C.1 C.2.1 hd ht (fun h => ?_) (fun h => ?_)
  · rw [if_pos h] at hf; exact kt hf p e s m args below meth c C H locs ls hW hl
  · rw [if_neg h] at hf; exact kf hf p e s m args below meth c C H locs ls hW hl

theorem vv_icmp_ge {α : Type} {r : α} {A B : Option α} {x y : Int32} {off : Int} (hd : decode mi.2.2.1 pc = .ok (.if_icmp .ge off, 3)) (tgt pc' : Nat) (ht : (pc : Int) + off = (tgt : Int)) (hp : pc + 3 = pc') (hf : (if y ≤ x then A else B) = some r) (kt : A = some r → ob_V g w mi ov σ' σ tgt lv st) (kf : B = some r → ob_V g w mi ov σ' σ pc'  lv st) : ob_V g w mi ov σ' σ pc lv (.int y :: .int x :: st) := by
  subst hp
  intro p e s m args below meth c C H locs ls hW hl
  refine lv_icmp_ge C.1 C.2.1 hd ht (fun h => ?_) (fun h => ?_)
  · rw [if_pos h] at hf; exact kt hf p e s m args below meth c C H locs ls hW hl
  · rw [if_neg h] at hf; exact kf hf p e s m args below meth c C H locs ls hW hl

theorem vv_icmp_gt {α : Type} {r : α} {A B : Option α} {x y : Int32} {off : Int} (hd : decode mi.2.2.1 pc = .ok (.if_icmp .gt off, 3)) (tgt pc' : Nat) (ht : (pc : Int) + off = (tgt : Int)) (hp : pc + 3 = pc') (hf : (if y < x then A else B) = some r) (kt : A = some r → ob_V g w mi ov σ' σ tgt lv st) (kf : B = some r → ob_V g w mi ov σ' σ pc'  lv st) : ob_V g w mi ov σ' σ pc lv (.int y :: .int x :: st) := by
  subst hp
  intro p e s m args below meth c C H locs ls hW hl
  refine lv_icmp_gt C.1 C.2.1 hd ht (fun h => ?_) (fun h => ?_)
  · rw [if_pos h] at hf; exact kt hf p e s m args below meth c C H locs ls hW hl
  · rw [if_neg h] at hf; exact kf hf p e s m args below meth c C H locs ls hW hl

theorem vv_icmp_le {α : Type} {r : α} {A B : Option α} {x y : Int32} {off : Int} (hd : decode mi.2.2.1 pc = .ok (.if_icmp .le off, 3)) (tgt pc' : Nat) (ht : (pc : Int) + off = (tgt : Int)) (hp : pc + 3 = pc') (hf : (if x ≤ y then A else B) = some r) (kt : A = some r → ob_V g w mi ov σ' σ tgt lv st) (kf : B = some r → ob_V g w mi ov σ' σ pc'  lv st) : ob_V g w mi ov σ' σ pc lv (.int y :: .int x :: st) := by
  subst hp
  intro p e s m args below meth c C H locs ls hW hl
  refine lv_icmp_le C.1 C.2.1 hd ht (fun h => ?_) (fun h => ?_)
  · rw [if_pos h] at hf; exact kt hf p e s m args below meth c C H locs ls hW hl
  · rw [if_neg h] at hf; exact kf hf p e s m args below meth c C H locs ls hW hl

theorem vv_case {α : Type} {r : α} {A B : Option α} {x : Int32} (n : Int32) (hf : (if x = n then A else B) = some r) (kt : A = some r → ob_V g w mi ov σ' σ pc lv (.int n :: st)) (kf : ¬ x = n → B = some r → ob_V g w mi ov σ' σ pc lv (.int x :: st)) : ob_V g w mi ov σ' σ pc lv (.int x :: st) := by
  by_cases h : x = n
  · subst h; rw [if_pos rfl] at hf; exact kt hf
  · rw [if_neg h] at hf; exact kf h hf
theorem vv_tabIn {dflt lo hi : Int} {offs : Array Int} {len : Nat} {x : Int32} {off : Int} (hd : decode mi.2.2.1 pc = .ok (.tableswitch dflt lo hi offs, len)) (tgt : Nat) (h1 : ¬ x.toInt < lo) (h2 : ¬ hi < x.toInt) (ho : offs[(x.toInt - lo).toNat]? = some off) (ht : (pc : Int) + off = (tgt : Int)) (k : ob_V g w mi ov σ' σ tgt lv st) : ob_V g w mi ov σ' σ pc lv (.int x :: st) := by
  intro p e s m args below meth c C H locs ls hW hl
  exact lv_tableIn C.1 C.2.1 hd h1 h2 ho ht (k p e s m args below meth c C H locs ls hW hl)
theorem vv_tabOut {dflt lo hi : Int} {offs : Array Int} {len : Nat} {x : Int32} (hd : decode mi.2.2.1 pc = .ok (.tableswitch dflt lo hi offs, len)) (tgt : Nat) (h : x.toInt < lo ∨ hi < x.toInt) (ht : (pc : Int) + dflt = (tgt : Int)) (k : ob_V g w mi ov σ' σ tgt lv st) : ob_V g w mi ov σ' σ pc lv (.int x :: st) := by
  intro p e s m args below meth c C H locs ls hW hl
  exact lv_tableOut C.1 C.2.1 hd h ht (k p e s m args below meth c C H locs ls hW hl)
theorem vv_look {dflt : Int} {ps : Array (Int × Int)} {len : Nat} {x : Int32} {off : Int} (hd : decode mi.2.2.1 pc = .ok (.lookupswitch dflt ps, len)) (tgt : Nat) (hq : (ps.toList.zip (ps.toList.drop 1)).all (fun (a, next) => a.1 < next.1) = true) (ho : Op.lookupswitch.offset ps.toList dflt x.toInt = off) (ht : (pc : Int) + off = (tgt : Int)) (k : ob_V g w mi ov σ' σ tgt lv st) : ob_V g w mi ov σ' σ pc lv (.int x :: st) := by
  intro p e s m args below meth c C H locs ls hW hl
  exact lv_lookup C.1 C.2.1 hd hq ho ht (k p e s m args below meth c C H locs ls hW hl)
theorem ob_neI {x k : Int32} {a : Int} (h : ¬ x = k) (hk : k.toInt = a) : ¬ x.toInt = a := fun q => h (Int32.toInt_inj.mp (q.trans hk.symm))
theorem vv_sub (ks : List Nat) (lv' : List (Nat × Value)) (h : lv_pick lv ks = lv') (k : ob_V g w mi ov σ' σ pc lv' st) : ob_V g w mi ov σ' σ pc lv st := by
  intro p e s m args below meth c C H locs ls hW hl
  exact k p e s m args below meth c C H locs ls hW (lv_sub hl ks h)
theorem vv_nm {α : Type} {r : α} {x : Int32} {K : Int32 → Option α} (hf : ob_nm x K = some r) (k : ∀ y : Int32, K y = some r → ob_V g w mi ov σ' σ pc lv (.int y :: st)) : ob_V g w mi ov σ' σ pc lv (.int x :: st) := k x hf
def ob_abs (x : Int32) : Int32 := if 0 ≤ x then x else 0 - x
/-! THE WORLD'S ROWS -/
def ob_GF (mi : ob_MI) (idx ci j : Nat) : Prop := ∃ (C : String) (T : u_T) (N : Nat), vwCl[ci]? = some (C, T, N) ∧ j < N ∧ (∀ x ∈ u_ws C T N, x ∈ mi.2.1) ∧ Cond.fieldLink mi.1.cls idx (T j).1 (T j).2.1 (T j).2.2.1 ∈ mi.2.1
def ob_PF (mi : ob_MI) (idx ci j : Nat) (ty : FieldType) : Prop := ∃ (C : String) (T : u_T) (N : Nat) (ty0 : Nat → FieldType), vwCl[ci]? = some (C, T, N) ∧ j < N ∧ (∀ x ∈ u_ws C T N, x ∈ mi.2.1) ∧ Cond.fieldLink mi.1.cls idx (T j).1 (T j).2.1 (T j).2.2.1 ∈ mi.2.1 ∧ (∀ k, k < N → parseFieldDescriptor (T k).2.2.1 = some (ty0 k)) ∧ (∀ a, a < N → ∀ b, b < N → a ≠ b → (T a).2.1 ≠ (T b).2.1) ∧ (T j).2.2.2 = false ∧ parseFieldDescriptor (T j).2.2.1 = some ty
def ob_fit (ty : FieldType) (v : Int32) : Prop := narrow ty (.int v) = .int v ∧ fits ty (.int v) = true
theorem ob_fit_int (v : Int32) : ob_fit .int v := ⟨rfl, rfl⟩
theorem ob_obj_at {g : ob_GT} {w : ob_WT} {σ : ob_St} {k ci : Nat} {fs : List (Option Nat)} (hk : k < w.1) (hs : w.2.1 k = .inr (.inl (ci, fs))) : (ob_w g w σ)[k]? = some (w.2.2 k, .inr (ci, ob_fv w.2.2 (σ k) 0 fs)) := by
  rw [ob_w_get hk, ob_cell_obj hs]
theorem ob_arr_at {g : ob_GT} {w : ob_WT} {σ : ob_St} {k n : Nat} (hk : k < w.1) (hs : w.2.1 k = .inl n) : (ob_w g w σ)[k]? = some (w.2.2 k, .inl (g.2.2.1, n, .inl (σ k))) := by
  rw [ob_w_get hk, ob_cell_arr hs]
theorem vv_getI {k ci idx : Nat} {fs : List (Option Nat)} (hd : decode mi.2.2.1 pc = .ok (.getfield idx, 3)) (j : Nat) (hG : ob_GF mi idx ci j) (hk : k < w.1) (hs : w.2.1 k = .inr (.inl (ci, fs))) (hj : fs[j]? = some none) (pc' : Nat) (hp : pc + 3 = pc') (kk : ob_V g w mi ov σ' σ pc' lv (.int (σ k j) :: st)) : ob_V g w mi ov σ' σ pc lv (.ref (w.2.2 k) :: st) := by
  subst hp
  intro p e s m args below meth c C H locs ls hW hl
  obtain ⟨Cn, T, N, h1, h2, h3, h4⟩ := hG
  have hv := ob_fv_int w.2.2 (σ k) fs 0 j hj
  rw [Nat.zero_add] at hv
  exact va_get (D := g.2.1) (cl := vwCl) (ci := ci) (C := Cn) (T := T) (N := N) C.1 C.2.1 C.2.2.2.2.2.1 h3 C.2.2.2.2.1 C.2.2.2.2.2.2.2.1 hW.1 k (ob_obj_at hk hs) h1 j h2 (C.2.2.2.2.2.1 _ h4) (fun _ h => h) hv hd (kk p e s m args below meth c C H locs ls hW hl)
theorem vv_getR {k ci idx k1 : Nat} {fs : List (Option Nat)} (hd : decode mi.2.2.1 pc = .ok (.getfield idx, 3)) (j : Nat) (hG : ob_GF mi idx ci j) (hk : k < w.1) (hs : w.2.1 k = .inr (.inl (ci, fs))) (hj : fs[j]? = some (some k1)) (pc' : Nat) (hp : pc + 3 = pc') (kk : ob_V g w mi ov σ' σ pc' lv (.ref (w.2.2 k1) :: st)) : ob_V g w mi ov σ' σ pc lv (.ref (w.2.2 k) :: st) := by
  subst hp
  intro p e s m args below meth c C H locs ls hW hl
  obtain ⟨Cn, T, N, h1, h2, h3, h4⟩ := hG
  have hv := ob_fv_ref w.2.2 (σ k) fs 0 j hj
  exact va_get (D := g.2.1) (cl := vwCl) (ci := ci) (C := Cn) (T := T) (N := N) C.1 C.2.1 C.2.2.2.2.2.1 h3 C.2.2.2.2.1 C.2.2.2.2.2.2.2.1 hW.1 k (ob_obj_at hk hs) h1 j h2 (C.2.2.2.2.2.1 _ h4) (fun _ h => h) hv hd (kk p e s m args below meth c C H locs ls hW hl)
theorem vv_putI {α : Type} {r : α} {x : Int32} {K : ob_St → Option α} {k ci idx : Nat} {fs : List (Option Nat)} {ty : FieldType} (hd : decode mi.2.2.1 pc = .ok (.putfield idx, 3)) (j : Nat) (hG : ob_PF mi idx ci j ty) (hk : k < w.1) (hs : w.2.1 k = .inr (.inl (ci, fs))) (hj : fs[j]? = some none) (hx : ob_fit ty x) (pc' : Nat) (hp : pc + 3 = pc') (hf : ob_pf σ k j x K = some r) (kk : ∀ σ1 : ob_St, K σ1 = some r → ob_V g w mi ov σ' σ1 pc' lv st) : ob_V g w mi ov σ' σ pc lv (.int x :: .ref (w.2.2 k) :: st) := by
  subst hp
  intro p e s m args below meth c C H locs ls hW hl
  obtain ⟨Cn, T, N, ty0, h1, h2, h3, h4, h5, h6, h7, h8⟩ := hG
  have hjl : j < (ob_fv w.2.2 (σ k) 0 fs).length := by
    rw [ob_fv_len]
    exact (List.getElem?_eq_some_iff.mp hj).1
  have hset : (ob_w g w σ).set k (w.2.2 k, .inr (ci, (ob_fv w.2.2 (σ k) 0 fs).set j (.int x))) = ob_w g w (ob_up σ k j x) := by
    refine ob_w_set hk ?_ (fun i hi => ob_upA_ne _ _ _ hi)
    rw [ob_cell_obj hs]
    have h9 := ob_fv_set w.2.2 (σ k) x fs 0 j hj
    rw [Nat.zero_add] at h9
    rw [show ob_up σ k j x k = upd (σ k) j x from ob_upA_self _ _ _, h9]
  refine va_put (D := g.2.1) (cl := vwCl) (ci := ci) (C := Cn) (T := T) (N := N) (v := .int x) (ty := ty) C.1 C.2.1 C.2.2.2.2.2.1 h3 ty0 h5 h6 C.2.2.2.2.1 C.2.2.2.2.2.2.2.1 hW.1 hW.2.1 hW.2.2 k (ob_obj_at hk hs) h1 j h2 (C.2.2.2.2.2.1 _ h4) (fun _ h => h) h7 h8 hx.1 hx.2 hjl hd (fun H1 locs1 hP hD hS => ?_)
  rw [hset] at hP hD
  exact kk _ hf p e s m args below meth c C H1 locs1 ls ⟨hP, hD, hS⟩ hl
theorem vv_iald {α : Type} {r : α} {i : Int32} {K : Int32 → Option α} {k n : Nat} (hd : decode mi.2.2.1 pc = .ok (.iaload, 1)) (hk : k < w.1) (hs : w.2.1 k = .inl n) (pc' : Nat) (hp : pc + 1 = pc') (hf : ob_ld σ k n i K = some r) (kk : ∀ y : Int32, K y = some r → ob_V g w mi ov σ' σ pc' lv (.int y :: st)) : ob_V g w mi ov σ' σ pc lv (.int i :: .ref (w.2.2 k) :: st) := by
  subst hp
  intro p e s m args below meth c C H locs ls hW hl
  obtain ⟨h1, h2⟩ := ob_ifs hf
  exact va_iald C.1 C.2.1 C.2.2.2.2.2.2.2.1 hW.1 k 0 (ob_arr_at hk hs) rfl (ob_in_vp h1) hd (kk _ h2 p e s m args below meth c C H locs ls hW hl)
theorem vv_iast {α : Type} {r : α} {i x : Int32} {K : ob_St → Option α} {k n : Nat} (hd : decode mi.2.2.1 pc = .ok (.iastore, 1)) (hk : k < w.1) (hs : w.2.1 k = .inl n) (pc' : Nat) (hp : pc + 1 = pc') (hf : ob_sd σ k n i x K = some r) (kk : ∀ σ1 : ob_St, K σ1 = some r → ob_V g w mi ov σ' σ1 pc' lv st) : ob_V g w mi ov σ' σ pc lv (.int x :: .int i :: .ref (w.2.2 k) :: st) := by
  subst hp
  intro p e s m args below meth c C H locs ls hW hl
  obtain ⟨h1, h2⟩ := ob_ifs hf
  have hset : (ob_w g w σ).set k (w.2.2 k, .inl (g.2.2.1, n, .inl (upd (σ k) i.toNatClampNeg x))) = ob_w g w (ob_up σ k i.toNatClampNeg x) := by
    refine ob_w_set hk ?_ (fun q hq => ob_upA_ne _ _ _ hq)
    rw [ob_cell_arr hs, show ob_up σ k i.toNatClampNeg x k = upd (σ k) i.toNatClampNeg x from ob_upA_self _ _ _]
  refine va_iast C.1 C.2.1 C.2.2.2.2.2.2.2.1 hW.1 hW.2.1 hW.2.2 k 0 (ob_arr_at hk hs) rfl (ob_in_vp h1) hd (fun H1 locs1 hP hD hS => ?_)
  rw [hset] at hP hD
  exact kk _ h2 p e s m args below meth c C H1 locs1 ls ⟨hP, hD, hS⟩ hl
theorem vv_alen {k n : Nat} (hd : decode mi.2.2.1 pc = .ok (.arraylength, 1)) (v : Int32) (hk : k < w.1) (hs : w.2.1 k = .inl n) (hv : Int32.ofNat n = v) (pc' : Nat) (hp : pc + 1 = pc') (kk : ob_V g w mi ov σ' σ pc' lv (.int v :: st)) : ob_V g w mi ov σ' σ pc lv (.ref (w.2.2 k) :: st) := by
  subst hp
  intro p e s m args below meth c C H locs ls hW hl
  exact va_alen C.1 C.2.1 C.2.2.2.2.2.2.2.1 hW.1 k 0 (x := (n, .inl (σ k))) (ob_arr_at hk hs) rfl hv hd (kk p e s m args below meth c C H locs ls hW hl)
theorem vv_qlen {k : Nat} {ks : List Nat} (hd : decode mi.2.2.1 pc = .ok (.arraylength, 1)) (v : Int32) (hk : k < w.1) (hs : w.2.1 k = .inr (.inr ks)) (hv : Int32.ofNat ks.length = v) (pc' : Nat) (hp : pc + 1 = pc') (kk : ob_V g w mi ov σ' σ pc' lv (.int v :: st)) : ob_V g w mi ov σ' σ pc lv (.ref (w.2.2 k) :: st) := by
  subst hp
  intro p e s m args below meth c C H locs ls hW hl
  exact va_alen C.1 C.2.1 C.2.2.2.2.2.2.2.1 hW.1 k 1 (x := (ks.length, .inr (.inr (.inr (.inr (fun j => (ks[j]?).map w.2.2)))))) (by rw [ob_w_get hk, ob_cell_row hs]) rfl hv hd (kk p e s m args below meth c C H locs ls hW hl)
def ob_lq {α : Type} (ks : List Nat) (i : Int32) (K : Nat → Option α) : Option α := if ob_in i ks.length = true then (match ks[i.toNatClampNeg]? with | none => none | some q => K q) else none
theorem vv_aald {α : Type} {r : α} {i : Int32} {K : Nat → Option α} {k : Nat} {ks : List Nat} (hd : decode mi.2.2.1 pc = .ok (.aaload, 1)) (hk : k < w.1) (hs : w.2.1 k = .inr (.inr ks)) (pc' : Nat) (hp : pc + 1 = pc') (hf : ob_lq ks i K = some r) (kk : ∀ q : Nat, ks[i.toNatClampNeg]? = some q → K q = some r → ob_V g w mi ov σ' σ pc' lv (.ref (w.2.2 q) :: st)) : ob_V g w mi ov σ' σ pc lv (.int i :: .ref (w.2.2 k) :: st) := by
  subst hp
  intro p e s m args below meth c C H locs ls hW hl
  obtain ⟨h1, h2⟩ := ob_ifs hf
  cases hq : ks[i.toNatClampNeg]? with
  | none => rw [hq] at h2; cases h2
  | some q =>
    rw [hq] at h2
    have hk2 := kk q hq h2 p e s m args below meth c C H locs ls hW hl
    refine va_aldq C.1 C.2.1 C.2.2.2.2.2.2.2.1 hW.1 k 1 (f := fun j => (ks[j]?).map w.2.2) (by rw [ob_w_get hk, ob_cell_row hs]) rfl (ob_in_vp h1) hd ?_
    rw [show va_rf ((fun j => (ks[j]?).map w.2.2) i.toNatClampNeg) = .ref (w.2.2 q) from by show va_rf ((ks[i.toNatClampNeg]?).map w.2.2) = _; rw [hq]; rfl]
    exact hk2
/-- System.arraycopy(a, 0, b, 0, n) -/
theorem vv_copy {α : Type} {r : α} {K : ob_St → Option α} {k0 k1 n0 n1 idx : Nat} {x : Int32} (hd : decode mi.2.2.1 pc = .ok (.invokestatic idx, 3)) (n : Nat) (hk0 : k0 < w.1) (hs0 : w.2.1 k0 = .inl n0) (hk1 : k1 < w.1) (hs1 : w.2.1 k1 = .inl n1) (hx : ¬ x < 0 ∧ x.toNatClampNeg = n) (hn : n ≤ n0 ∧ n ≤ n1) (hm : Cond.methodLink mi.1.cls idx arraycopyName ∈ mi.2.1 ∧ Cond.native arraycopyName ∈ mi.2.1 ∧ Cond.static arraycopyName ∈ mi.2.1 ∧ Cond.initialized "java/lang/System" ∈ mi.2.1) (hrm : 1 ≤ mi.2.2.2.2.2.frames) (hro : (st.map fun v => v.category).sum + (nativeFrameWords "java/lang/System" "arraycopy" 5 + 11) ≤ mi.2.2.2.2.2.locals) (pc' : Nat) (hp : pc + 3 = pc') (hf : ob_cp σ k0 k1 n K = some r) (kk : ∀ σ1 : ob_St, K σ1 = some r → ob_V g w mi ov σ' σ1 pc' lv st) : ob_V g w mi ov σ' σ pc lv (.int x :: .int 0 :: .ref (w.2.2 k1) :: .int 0 :: .ref (w.2.2 k0) :: st) := by
  subst hp
  intro p e s m args below meth c C H locs ls hW hl
  have hts := C.2.2.2.2.2.1
  have z0 : (0 : Int32).toNatClampNeg = 0 := by decide
  have hset : (ob_w g w σ).set k1 (w.2.2 k1, .inl (g.2.2.1, n1, .inl (va_cpy (σ k0) (σ k1) 0 0 n))) = ob_w g w (ob_upA σ k1 (va_cpy (σ k0) (σ k1) 0 0 n)) := by
    refine ob_w_set hk1 ?_ (fun q hq => ob_upA_ne _ _ _ hq)
    rw [ob_cell_arr hs1, ob_upA_self]
  refine va_copyi (sp := 0) (dp := 0) (n := x) (ty := .int) C.1 C.2.1 (C.2.2.1.trans hl.1.symm) C.2.2.2.2.1 (hts _ hm.1) (hts _ hm.2.1) (hts _ hm.2.2.1) (hts _ hm.2.2.2) C.2.2.2.2.2.2.2.1 hW.1 hW.2.1 hW.2.2 k0 k1 0 0 (ob_arr_at hk0 hs0) (ob_arr_at hk1 hs1) rfl rfl rfl (by decide) (by decide) hx.1 (by rw [z0, hx.2]; omega) (by rw [z0, hx.2]; omega) (fun _ _ => rfl) hrm hro hd (fun H1 locs1 hP hD hS => ?_)
  rw [z0, hx.2, hset] at hP hD
  exact kk _ hf p e s m args below meth c C H1 locs1 ls ⟨hP, hD, hS⟩ hl
def ob_mm (mi : ob_MI) (idx : Nat) (y : MethodName) (cd : Cond) : Prop := Cond.methodLink mi.1.cls idx y ∈ mi.2.1 ∧ Cond.static y ∈ mi.2.1 ∧ Cond.initialized "java/lang/Math" ∈ mi.2.1 ∧ cd ∈ mi.2.1
theorem vv_max {idx : Nat} {x y : Int32} (hd : decode mi.2.2.1 pc = .ok (.invokestatic idx, 3)) (hm : ob_mm mi idx Lib.Math.max.name (.code Lib.Math.max.name Lib.Math.max.code 2 (some .int))) (hrm : 1 ≤ mi.2.2.2.2.2.frames) (hro : (st.map fun v => v.category).sum + 13 ≤ mi.2.2.2.2.2.locals) (pc' : Nat) (hp : pc + 3 = pc') (kk : ob_V g w mi ov σ' σ pc' lv (.int (ob_max x y) :: st)) : ob_V g w mi ov σ' σ pc lv (.int y :: .int x :: st) := by
  subst hp
  intro p e s m args below meth c C H locs ls hW hl
  have hts := C.2.2.2.2.2.1
  exact va_mmax C.1 C.2.1 (C.2.2.1.trans hl.1.symm) C.2.2.2.2.1 (hts _ hm.1) (hts _ hm.2.1) (hts _ hm.2.2.1) (hts _ hm.2.2.2) hrm hro (Nat.zero_le _) (Nat.zero_le _) hd (kk p e s m args below meth c C H locs ls hW hl)
theorem vv_min {idx : Nat} {x y : Int32} (hd : decode mi.2.2.1 pc = .ok (.invokestatic idx, 3)) (hm : ob_mm mi idx Lib.Math.min.name (.code Lib.Math.min.name Lib.Math.min.code 2 (some .int))) (hrm : 1 ≤ mi.2.2.2.2.2.frames) (hro : (st.map fun v => v.category).sum + 13 ≤ mi.2.2.2.2.2.locals) (pc' : Nat) (hp : pc + 3 = pc') (kk : ob_V g w mi ov σ' σ pc' lv (.int (ob_min x y) :: st)) : ob_V g w mi ov σ' σ pc lv (.int y :: .int x :: st) := by
  subst hp
  intro p e s m args below meth c C H locs ls hW hl
  have hts := C.2.2.2.2.2.1
  exact va_mmin C.1 C.2.1 (C.2.2.1.trans hl.1.symm) C.2.2.2.2.1 (hts _ hm.1) (hts _ hm.2.1) (hts _ hm.2.2.1) (hts _ hm.2.2.2) hrm hro (Nat.zero_le _) (Nat.zero_le _) hd (kk p e s m args below meth c C H locs ls hW hl)
theorem vv_abs {idx : Nat} {x : Int32} (hd : decode mi.2.2.1 pc = .ok (.invokestatic idx, 3)) (hm : ob_mm mi idx Lib.Math.abs.name (.code Lib.Math.abs.name Lib.Math.abs.code 1 (some .int))) (hrm : 1 ≤ mi.2.2.2.2.2.frames) (hro : (st.map fun v => v.category).sum + 13 ≤ mi.2.2.2.2.2.locals) (pc' : Nat) (hp : pc + 3 = pc') (kk : ob_V g w mi ov σ' σ pc' lv (.int (ob_abs x) :: st)) : ob_V g w mi ov σ' σ pc lv (.int x :: st) := by
  subst hp
  intro p e s m args below meth c C H locs ls hW hl
  have hts := C.2.2.2.2.2.1
  exact va_mabs C.1 C.2.1 (C.2.2.1.trans hl.1.symm) C.2.2.2.2.1 (hts _ hm.1) (hts _ hm.2.1) (hts _ hm.2.2.1) (hts _ hm.2.2.2) hrm hro (Nat.zero_le _) (Nat.zero_le _) hd (kk p e s m args below meth c C H locs ls hW hl)
/-! ENDS -/
theorem ob_end {p : Program} {s : State} {m : MethodId} {args : Array Value} {meth : Method} {c : Code} {H : Heap} {locs : List Loc} (C : ob_Cx g w mi p s m args meth c) (hW : ob_Wd g w σ s H locs) : ∀ t : State, t.heap = H → s.WarmedH t.vm → ob_Q g w ov σ args s (.returned ov) t := by
  intro t ht hW2
  refine ⟨⟨rfl, ?_, va_K.moved hW2.alike C.2.2.2.2.2.2.2.1, hW.2.1⟩, hW.2.2.F ht⟩
  rw [ht]
  exact hW.1
theorem vv_ireti {v r : Int32} (hr : mi.2.2.2.2.1 = some .int) (hd : decode mi.2.2.1 pc = .ok (.ireturn, 1)) (hf : some (v, σ) = some (r, σ')) : ob_V g w mi (some (.int r)) σ' σ pc lv [.int v] := by
  obtain ⟨rfl, rfl⟩ := Prod.mk.inj (Option.some.inj hf)
  intro p e s m args below meth c C H locs ls hW hl
  exact W.iret C.1 C.2.1 (C.2.2.2.1.trans hr) (ob_end C hW) hW.2.2.2.2 hd C.2.2.2.2.2.2.1
theorem ob_rb_inv {v r : Int32} (hf : ob_rb v σ = some (r, σ')) : (v = 0 ∨ v = 1) ∧ v = r ∧ σ = σ' := by
  obtain ⟨h1, h2⟩ := ob_ifs hf
  obtain ⟨h3, h4⟩ := Prod.mk.inj (Option.some.inj h2)
  exact ⟨h1, h3, h4⟩
theorem vv_iretz {v r : Int32} (hr : mi.2.2.2.2.1 = some .boolean) (hd : decode mi.2.2.1 pc = .ok (.ireturn, 1)) (hf : ob_rb v σ = some (r, σ')) : ob_V g w mi (some (.int r)) σ' σ pc lv [.int v] := by
  obtain ⟨h1, rfl, rfl⟩ := ob_rb_inv hf
  intro p e s m args below meth c C H locs ls hW hl
  refine W.zret C.1 C.2.1 (C.2.2.2.1.trans hr) ?_ (ob_end C hW) hW.2.2.2.2 hd C.2.2.2.2.2.2.1
  rcases h1 with rfl | rfl <;> rfl
theorem vv_ret {r : Unit} (hr : mi.2.2.2.2.1 = none) (hd : decode mi.2.2.1 pc = .ok (.return_, 1)) (hf : some ((), σ) = some (r, σ')) : ob_V g w mi none σ' σ pc lv [] := by
  obtain ⟨-, rfl⟩ := Prod.mk.inj (Option.some.inj hf)
  intro p e s m args below meth c C H locs ls hW hl
  exact W.vret C.1 C.2.1 (C.2.2.2.1.trans hr) (ob_end C hW) hW.2.2.2.2 hd C.2.2.2.2.2.2.1
/-- a reference's return, to a cell of the world or to a text: its place is the value -/
theorem vv_aret {q r : Nat} (f : Nat → Nat) {nm : String} (hr : mi.2.2.2.2.1 = some (.object nm)) (hd : decode mi.2.2.1 pc = .ok (.areturn, 1)) (hf : some (q, σ) = some (r, σ')) : ob_V g w mi (some (.ref (f r))) σ' σ pc lv [.ref (f q)] := by
  obtain ⟨rfl, rfl⟩ := Prod.mk.inj (Option.some.inj hf)
  intro p e s m args below meth c C H locs ls hW hl
  exact W.aret C.1 C.2.1 (C.2.2.2.1.trans hr) (Or.inl ⟨nm, rfl⟩) (Or.inr ⟨_, rfl⟩) (ob_end C hW) hW.2.2.2.2 hd C.2.2.2.2.2.2.1
/-! CALLS -/
theorem ob_A_mono {w : ob_WT} {a b : Nat} (h : a ≤ b) : ∀ q, ob_A w b q → ob_A w a q := fun _ hq => hq.elim Or.inl (fun z => Or.inr (Nat.le_trans h z))
theorem ob_blind (g : ob_GT) (w : ob_WT) (σ : ob_St) (sz : Nat) (as : List Value) : FrameBlind (va_Pc as (ob_Pre g w σ sz)) := by
  intro a U f mk hq
  obtain ⟨q0, q1, q2, q3, q4, q5⟩ := hq
  exact ⟨q0, q1, q2, va_K.moved (u := U) (U := U.calling f mk a) (Vm.Alike.refl U.vm) q3, q4, ob_S.go (U := U.calling f mk a) q5 (Vm.Alike.refl U.vm) (ob_S3.same (u := U) rfl q5.2.2) (fun _ _ _ => rfl) (fun _ h => h)⟩
theorem ob_preU {p : Program} {s : State} {m : MethodId} {args : Array Value} {meth : Method} {c : Code} {H : Heap} {locs : List Loc} (C : ob_Cx g w mi p s m args meth c) (hW : ob_Wd g w σ s H locs) (U : State) (hU : U.heap = H) (hw : s.WarmedH U.vm) : ob_Pre g w σ H.size U := by
  have hS0 := C.2.2.2.2.2.2.2.2
  refine ⟨by rw [hU], ?_, va_K.moved hw.alike C.2.2.2.2.2.2.2.1, hW.2.1.weaken (fun _ _ _ _ => trivial), ?_⟩
  · rw [hU]; exact hW.1
  · rw [hU]; exact ob_S.go hS0 hw.alike (ob_S3.warm hw hS0.2.2) hW.2.2.2.1 (ob_A_mono hW.2.2.1)
theorem ob_callG {ov1 : Option Value} {σ1 : ob_St} {a : Array Value} {rest st0 : List Value} {p : Program} {e : Env} {s : State} {m : MethodId} {args : Array Value} {below : List Frame} {meth : Method} {c : Code} {H : Heap} {locs : List Loc} {ls : Array Slot}
    (kk : ob_V g w mi ov σ' σ1 (pc + 3) lv (ov1.toList ++ rest)) (C : ob_Cx g w mi p s m args meth c) (hW : ob_Wd g w σ s H locs) (hl : lv_has ls mi.2.2.2.1 lv)
    (hr : va_Run p g.1 e mi.2.2.2.2.2 s m args below meth c H locs 0 0 0 0 (F0 m pc ls st0) rest (ob_Q g w ov1 σ1 a) (ob_A w H.size)) :
    W p g.1 e mi.2.2.2.2.2 s m args below meth c H locs 0 0 (MQ below (ob_Q g w ov σ') args s 0 0 (ob_A w s.heap.size)) (F0 m pc ls st0) := by
  intro T hT X
  obtain ⟨v, st₀, t, T', L, h0, X', hL, e1, e2, ⟨⟨hv, hP1, hK1, hD1⟩, hz, hk⟩, st⟩ := hr T hT X
  cases hv
  rw [h0] at hz hk hD1
  have hS := hW.2.2
  have hWd : ob_Wd g w σ1 s T'.heap (locs ++ L) := by
    rw [e1]
    refine ⟨hP1, hD1.weaken (fun _ q _ hq => ob_A_mono hS.1 _ hq), Nat.le_trans hS.1 hz, fun q h1 h2 => ?_, fun q hq => ?_⟩
    · rw [hk q (Nat.lt_of_lt_of_le h1 hS.1) (fun z => h2 (ob_A_mono hS.1 _ z))]
      exact hS.2.1 q h1 h2
    · rcases List.mem_append.mp hq with h | h
      · exact hS.2.2 q h
      · exact ob_A_mono hS.1 _ (hL q h)
  obtain ⟨t2, a1, b1⟩ := kk p e s m args below meth c C T'.heap (locs ++ L) ls hWd hl T' rfl X'
  exact ⟨t2, st t2 a1, b1⟩
def ob_CV (mi mj : ob_MI) (idx : Nat) (Cn : String) (n : Nat) : Prop := GoodIn mi.2.1 (wsV mi.1.cls idx Cn mj.1 mj.2.1) ∧ mj.2.1 = Cond.code mj.1 mj.2.2.1 mj.2.2.2.1 mj.2.2.2.2.1 :: mj.2.1.tail ∧ mj.2.2.2.2.2.cells = 0 ∧ mj.2.2.2.2.2.slots = 0 ∧ (mj.1.cls = Cn ∧ mj.1.cls ≠ "java/lang/invoke/MethodHandle" ∧ mj.1.cls ≠ "java/lang/invoke/VarHandle" ∧ (parseMethodDescriptor mj.1.desc).map (fun d => d.parameters.length) = some n) ∧ (mj.2.2.2.2.2.frames + 1 ≤ mi.2.2.2.2.2.frames ∧ 8 + (mj.2.2.2.1 + 11) + mj.2.2.2.2.2.locals ≤ mi.2.2.2.2.2.locals)
def ob_CS (mi mj : ob_MI) (idx : Nat) (n : Nat) : Prop := GoodIn mi.2.1 (va_wsS mi.1.cls idx mj.1 mj.2.1) ∧ mj.2.1 = Cond.code mj.1 mj.2.2.1 mj.2.2.2.1 mj.2.2.2.2.1 :: mj.2.1.tail ∧ mj.2.2.2.2.2.cells = 0 ∧ mj.2.2.2.2.2.slots = 0 ∧ (mj.1.cls ≠ "java/lang/invoke/MethodHandle" ∧ mj.1.cls ≠ "java/lang/invoke/VarHandle" ∧ (parseMethodDescriptor mj.1.desc).map (fun d => d.parameters.length) = some n) ∧ (mj.2.2.2.2.2.frames + 1 ≤ mi.2.2.2.2.2.frames ∧ 8 + (mj.2.2.2.1 + 11) + mj.2.2.2.2.2.locals ≤ mi.2.2.2.2.2.locals)
theorem ob_goodA {big ws : List Cond} (hb : ∀ w ∈ ob_all, w ∈ big) (ws1 : List Cond) (h1 : ∀ w ∈ ws1, w ∈ ob_all) (h2 : GoodIn big ws) : GoodIn big (ws1 ++ ws) := by
  intro w hw
  rcases List.mem_append.mp hw with h | h
  · exact ⟨hb w (h1 w h), good_of_word (List.mem_filter.mp (h1 w h)).2⟩
  · exact h2 w h
theorem ob_cvI {mi mj : ob_MI} {idx n : Nat} {Cn : String} (hi : mi.2.1 = Cond.code mi.1 mi.2.2.1 mi.2.2.2.1 mi.2.2.2.2.1 :: ob_all) (hj : mj.2.1 = Cond.code mj.1 mj.2.2.1 mj.2.2.2.1 mj.2.2.2.2.1 :: ob_all) (h1 : Cond.methodLink mi.1.cls idx mj.1 ∈ ob_all) (h2 : Cond.instanceMethod mj.1 ∈ ob_all) (h3 : Cond.selects Cn mj.1 mj.1 ∈ ob_all) (h4 : Cond.initialized Cn ∈ ob_all) (h5 : Cond.code mj.1 mj.2.2.1 mj.2.2.2.1 mj.2.2.2.2.1 ∈ ob_all)
    (h0 : mj.2.2.2.2.2.cells = 0 ∧ mj.2.2.2.2.2.slots = 0) (hd : mj.1.cls = Cn ∧ mj.1.cls ≠ "java/lang/invoke/MethodHandle" ∧ mj.1.cls ≠ "java/lang/invoke/VarHandle" ∧ (parseMethodDescriptor mj.1.desc).map (fun d => d.parameters.length) = some n) (hR : mj.2.2.2.2.2.frames + 1 ≤ mi.2.2.2.2.2.frames ∧ 8 + (mj.2.2.2.1 + 11) + mj.2.2.2.2.2.locals ≤ mi.2.2.2.2.2.locals) : ob_CV mi mj idx Cn n := by
  have hb : ∀ w ∈ ob_all, w ∈ mi.2.1 := fun w h => by rw [hi]; exact List.mem_cons_of_mem _ h
  refine ⟨?_, by rw [hj]; rfl, h0.1, h0.2, hd, hR⟩
  unfold wsV
  refine ob_goodA hb _ ?_ (by rw [hj]; exact ob_good hb h5)
  intro w hw
  simp only [List.mem_cons, List.not_mem_nil, or_false] at hw
  rcases hw with rfl | rfl | rfl | rfl
  · exact h1
  · exact h2
  · exact h3
  · exact h4
theorem ob_csI {mi mj : ob_MI} {idx n : Nat} (hi : mi.2.1 = Cond.code mi.1 mi.2.2.1 mi.2.2.2.1 mi.2.2.2.2.1 :: ob_all) (hj : mj.2.1 = Cond.code mj.1 mj.2.2.1 mj.2.2.2.1 mj.2.2.2.2.1 :: ob_all) (h1 : Cond.methodLink mi.1.cls idx mj.1 ∈ ob_all) (h2 : Cond.static mj.1 ∈ ob_all) (h4 : Cond.initialized mj.1.cls ∈ ob_all) (h5 : Cond.code mj.1 mj.2.2.1 mj.2.2.2.1 mj.2.2.2.2.1 ∈ ob_all)
    (h0 : mj.2.2.2.2.2.cells = 0 ∧ mj.2.2.2.2.2.slots = 0) (hd : mj.1.cls ≠ "java/lang/invoke/MethodHandle" ∧ mj.1.cls ≠ "java/lang/invoke/VarHandle" ∧ (parseMethodDescriptor mj.1.desc).map (fun d => d.parameters.length) = some n) (hR : mj.2.2.2.2.2.frames + 1 ≤ mi.2.2.2.2.2.frames ∧ 8 + (mj.2.2.2.1 + 11) + mj.2.2.2.2.2.locals ≤ mi.2.2.2.2.2.locals) : ob_CS mi mj idx n := by
  have hb : ∀ w ∈ ob_all, w ∈ mi.2.1 := fun w h => by rw [hi]; exact List.mem_cons_of_mem _ h
  refine ⟨?_, by rw [hj]; rfl, h0.1, h0.2, hd, hR⟩
  unfold va_wsS
  refine ob_goodA hb _ ?_ (by rw [hj]; exact ob_good hb h5)
  intro w hw
  simp only [List.mem_cons, List.not_mem_nil, or_false] at hw
  rcases hw with rfl | rfl | rfl
  · exact h1
  · exact h2
  · exact h4
/-- a receiver: a cell that holds an object of the class Cn, at every point of the method -/
def ob_Rec (g : ob_GT) (w : ob_WT) (σ : ob_St) (Cn : String) (b : Nat) : Prop := ∀ (s : State) (H : Heap) (locs : List Loc), va_K g.2.1 vwCl (ob_tys g) s → ob_S g (ob_A w s.heap.size) s s.heap → ob_Wd g w σ s H locs → ∃ cell : Cell, H[b]? = some cell ∧ cell.vm.isStatics = false ∧ s.vm.findClass Cn = some cell.cls
theorem ob_rec {k ci : Nat} {fs : List (Option Nat)} {Cn : String} {T : u_T} {N : Nat} (hk : k < w.1) (hs : w.2.1 k = .inr (.inl (ci, fs))) (hcl : vwCl[ci]? = some (Cn, T, N)) : ob_Rec g w σ Cn (w.2.2 k) := by
  intro s H locs hK _ hW
  exact va_recv (q := (Cn, T, N)) hK hW.1 hcl (ob_obj_at hk hs)
theorem ob_recS {i : Nat} (hi : i < 7) : ob_Rec g w σ "java/lang/String" (g.2.2.2.2.1 i) := by
  intro s H locs _ hS hW
  exact vk_recv hS.1.1 hi hW.2.2
theorem vv_callVg {α β : Type} {r : α} {F : Option (β × ob_St)} {K : β → ob_St → Option α} {mj : ob_MI} {b idx n : Nat} {Cn : String} (As rest : List Value) (val : β → Option Value) (hc : ∀ (r1 : β) (σ1 : ob_St), F = some (r1, σ1) → ob_CT g w mj (.ref b :: As) σ (val r1) σ1) (hR : ob_Rec g w σ Cn b) (hG : ob_CV mi mj idx Cn n) (hn : As.length = n)
    (hro : (rest.map fun v => v.category).sum ≤ 8) (pc' : Nat) (hp : pc + 3 = pc') (hd : decode mi.2.2.1 pc = .ok (.invokevirtual idx, 3)) (hst : st = As.reverse ++ .ref b :: rest) (hf : ob_bd F K = some r) (kk : ∀ (r1 : β) (σ1 : ob_St), K r1 σ1 = some r → ob_V g w mi ov σ' σ1 pc' lv ((val r1).toList ++ rest)) : ob_V g w mi ov σ' σ pc lv st := by
  subst hp
  intro p e s m args below meth c C H locs ls hW hl
  obtain ⟨h1, h2, h3, h4, h5, h6⟩ := hG
  cases hF : F with
  | none => rw [hF] at hf; cases hf
  | some q =>
    obtain ⟨r1, σ1⟩ := q
    rw [hF] at hf
    exact ob_callG (kk r1 σ1 hf) C hW hl (va_runV (As := As) (rest := rest) ⟨C.1, C.2.1, C.2.2.1, C.2.2.2.2.1, C.2.2.2.2.2.1⟩ (hc r1 σ1 hF H.size) (cwV n C.2.2.2.2.2.1 h1 h2 h3 h4 h5 h6) ⟨ob_blind g w σ H.size _, hR s H locs C.2.2.2.2.2.2.2.1 C.2.2.2.2.2.2.2.2 hW, fun U hU hw => ⟨rfl, ob_preU C hW U hU hw⟩⟩ rfl hn hl.1 hst (lv_room hro) hd ⟨Nat.zero_le _, Nat.zero_le _⟩)
theorem vv_callSg {α β : Type} {r : α} {F : Option (β × ob_St)} {K : β → ob_St → Option α} {mj : ob_MI} {idx n : Nat} (As rest : List Value) (val : β → Option Value) (hc : ∀ (r1 : β) (σ1 : ob_St), F = some (r1, σ1) → ob_CT g w mj As σ (val r1) σ1) (hG : ob_CS mi mj idx n) (hn : As.length = n)
    (hro : (rest.map fun v => v.category).sum ≤ 8) (pc' : Nat) (hp : pc + 3 = pc') (hd : decode mi.2.2.1 pc = .ok (.invokestatic idx, 3)) (hst : st = As.reverse ++ rest) (hf : ob_bd F K = some r) (kk : ∀ (r1 : β) (σ1 : ob_St), K r1 σ1 = some r → ob_V g w mi ov σ' σ1 pc' lv ((val r1).toList ++ rest)) : ob_V g w mi ov σ' σ pc lv st := by
  subst hp
  intro p e s m args below meth c C H locs ls hW hl
  obtain ⟨h1, h2, h3, h4, h5, h6⟩ := hG
  cases hF : F with
  | none => rw [hF] at hf; cases hf
  | some q =>
    obtain ⟨r1, σ1⟩ := q
    rw [hF] at hf
    exact ob_callG (kk r1 σ1 hf) C hW hl (va_runS (As := As) (rest := rest) ⟨C.1, C.2.1, C.2.2.1, C.2.2.2.2.1, C.2.2.2.2.2.1⟩ (hc r1 σ1 hF H.size) (va_cwS n C.2.2.2.2.2.1 h1 h2 h3 h4 h5 h6) ⟨ob_blind g w σ H.size _, fun U hU hw => ⟨rfl, ob_preU C hW U hU hw⟩⟩ rfl hn hl.1 hst (lv_room hro) hd ⟨Nat.zero_le _, Nat.zero_le _⟩)
theorem vv_callV {α : Type} {r : α} {F : Option (Int32 × ob_St)} {K : Int32 → ob_St → Option α} {mj : ob_MI} {b idx n : Nat} {Cn : String} (As rest : List Value) (hc : ∀ (r1 : Int32) (σ1 : ob_St), F = some (r1, σ1) → ob_CT g w mj (.ref b :: As) σ (some (.int r1)) σ1) (hR : ob_Rec g w σ Cn b) (hG : ob_CV mi mj idx Cn n) (hn : As.length = n)
    (hro : (rest.map fun v => v.category).sum ≤ 8) (pc' : Nat) (hp : pc + 3 = pc') (hd : decode mi.2.2.1 pc = .ok (.invokevirtual idx, 3)) (hst : st = As.reverse ++ .ref b :: rest) (hf : ob_bd F K = some r) (kk : ∀ (r1 : Int32) (σ1 : ob_St), K r1 σ1 = some r → ob_V g w mi ov σ' σ1 pc' lv (.int r1 :: rest)) : ob_V g w mi ov σ' σ pc lv st :=
  vv_callVg As rest (fun r1 => some (.int r1)) hc hR hG hn hro pc' hp hd hst hf kk
theorem vv_callVu {α : Type} {r : α} {F : Option (Unit × ob_St)} {K : Unit → ob_St → Option α} {mj : ob_MI} {b idx n : Nat} {Cn : String} (As rest : List Value) (hc : ∀ (r1 : Unit) (σ1 : ob_St), F = some (r1, σ1) → ob_CT g w mj (.ref b :: As) σ none σ1) (hR : ob_Rec g w σ Cn b) (hG : ob_CV mi mj idx Cn n) (hn : As.length = n)
    (hro : (rest.map fun v => v.category).sum ≤ 8) (pc' : Nat) (hp : pc + 3 = pc') (hd : decode mi.2.2.1 pc = .ok (.invokevirtual idx, 3)) (hst : st = As.reverse ++ .ref b :: rest) (hf : ob_bd F K = some r) (kk : ∀ (r1 : Unit) (σ1 : ob_St), K r1 σ1 = some r → ob_V g w mi ov σ' σ1 pc' lv rest) : ob_V g w mi ov σ' σ pc lv st :=
  vv_callVg As rest (fun _ => none) hc hR hG hn hro pc' hp hd hst hf kk
theorem vv_callVr {α : Type} {r : α} {F : Option (Nat × ob_St)} {K : Nat → ob_St → Option α} {mj : ob_MI} {b idx n : Nat} {Cn : String} (As rest : List Value) (f : Nat → Nat) (hc : ∀ (r1 : Nat) (σ1 : ob_St), F = some (r1, σ1) → ob_CT g w mj (.ref b :: As) σ (some (.ref (f r1))) σ1) (hR : ob_Rec g w σ Cn b) (hG : ob_CV mi mj idx Cn n) (hn : As.length = n)
    (hro : (rest.map fun v => v.category).sum ≤ 8) (pc' : Nat) (hp : pc + 3 = pc') (hd : decode mi.2.2.1 pc = .ok (.invokevirtual idx, 3)) (hst : st = As.reverse ++ .ref b :: rest) (hf : ob_bd F K = some r) (kk : ∀ (r1 : Nat) (σ1 : ob_St), K r1 σ1 = some r → ob_V g w mi ov σ' σ1 pc' lv (.ref (f r1) :: rest)) : ob_V g w mi ov σ' σ pc lv st :=
  vv_callVg As rest (fun r1 => some (.ref (f r1))) hc hR hG hn hro pc' hp hd hst hf kk
theorem vv_callS {α : Type} {r : α} {F : Option (Int32 × ob_St)} {K : Int32 → ob_St → Option α} {mj : ob_MI} {idx n : Nat} (As rest : List Value) (hc : ∀ (r1 : Int32) (σ1 : ob_St), F = some (r1, σ1) → ob_CT g w mj As σ (some (.int r1)) σ1) (hG : ob_CS mi mj idx n) (hn : As.length = n)
    (hro : (rest.map fun v => v.category).sum ≤ 8) (pc' : Nat) (hp : pc + 3 = pc') (hd : decode mi.2.2.1 pc = .ok (.invokestatic idx, 3)) (hst : st = As.reverse ++ rest) (hf : ob_bd F K = some r) (kk : ∀ (r1 : Int32) (σ1 : ob_St), K r1 σ1 = some r → ob_V g w mi ov σ' σ1 pc' lv (.int r1 :: rest)) : ob_V g w mi ov σ' σ pc lv st :=
  vv_callSg As rest (fun r1 => some (.int r1)) hc hG hn hro pc' hp hd hst hf kk
theorem vv_callSu {α : Type} {r : α} {F : Option (Unit × ob_St)} {K : Unit → ob_St → Option α} {mj : ob_MI} {idx n : Nat} (As rest : List Value) (hc : ∀ (r1 : Unit) (σ1 : ob_St), F = some (r1, σ1) → ob_CT g w mj As σ none σ1) (hG : ob_CS mi mj idx n) (hn : As.length = n)
    (hro : (rest.map fun v => v.category).sum ≤ 8) (pc' : Nat) (hp : pc + 3 = pc') (hd : decode mi.2.2.1 pc = .ok (.invokestatic idx, 3)) (hst : st = As.reverse ++ rest) (hf : ob_bd F K = some r) (kk : ∀ (r1 : Unit) (σ1 : ob_St), K r1 σ1 = some r → ob_V g w mi ov σ' σ1 pc' lv rest) : ob_V g w mi ov σ' σ pc lv st :=
  vv_callSg As rest (fun _ => none) hc hG hn hro pc' hp hd hst hf kk
theorem vv_callSr {α : Type} {r : α} {F : Option (Nat × ob_St)} {K : Nat → ob_St → Option α} {mj : ob_MI} {idx n : Nat} (As rest : List Value) (f : Nat → Nat) (hc : ∀ (r1 : Nat) (σ1 : ob_St), F = some (r1, σ1) → ob_CT g w mj As σ (some (.ref (f r1))) σ1) (hG : ob_CS mi mj idx n) (hn : As.length = n)
    (hro : (rest.map fun v => v.category).sum ≤ 8) (pc' : Nat) (hp : pc + 3 = pc') (hd : decode mi.2.2.1 pc = .ok (.invokestatic idx, 3)) (hst : st = As.reverse ++ rest) (hf : ob_bd F K = some r) (kk : ∀ (r1 : Nat) (σ1 : ob_St), K r1 σ1 = some r → ob_V g w mi ov σ' σ1 pc' lv (.ref (f r1) :: rest)) : ob_V g w mi ov σ' σ pc lv st :=
  vv_callSg As rest (fun r1 => some (.ref (f r1))) hc hG hn hro pc' hp hd hst hf kk
/-- a private static of a nest mate -/
theorem vv_callSN {α : Type} {r : α} {F : Option (Int32 × ob_St)} {K : Int32 → ob_St → Option α} {mj : ob_MI} {idx n : Nat} {host : String} (As rest : List Value) (hc : ∀ (r1 : Int32) (σ1 : ob_St), F = some (r1, σ1) → ob_CT g w mj As σ (some (.int r1)) σ1) (hG : GoodIn mi.2.1 mj.2.1) (hw : mj.2.1 = Cond.code mj.1 mj.2.2.1 mj.2.2.2.1 mj.2.2.2.2.1 :: mj.2.1.tail) (h0 : mj.2.2.2.2.2.cells = 0 ∧ mj.2.2.2.2.2.slots = 0) (h5 : mj.1.cls ≠ "java/lang/invoke/MethodHandle" ∧ mj.1.cls ≠ "java/lang/invoke/VarHandle" ∧ (parseMethodDescriptor mj.1.desc).map (fun d => d.parameters.length) = some n) (h6 : mj.2.2.2.2.2.frames + 1 ≤ mi.2.2.2.2.2.frames ∧ 8 + (mj.2.2.2.1 + 11) + mj.2.2.2.2.2.locals ≤ mi.2.2.2.2.2.locals) (hi : Cond.initialized mj.1.cls ∈ mi.2.1 ∧ Cond.static mj.1 ∈ mi.2.1) (hN : ∀ u : State, ob_S3 g u → va_Nw (.methodLinkNest mi.1.cls idx mj.1 host) u) (hn : As.length = n)
    (hro : (rest.map fun v => v.category).sum ≤ 8) (pc' : Nat) (hp : pc + 3 = pc') (hd : decode mi.2.2.1 pc = .ok (.invokestatic idx, 3)) (hst : st = As.reverse ++ rest) (hf : ob_bd F K = some r) (kk : ∀ (r1 : Int32) (σ1 : ob_St), K r1 σ1 = some r → ob_V g w mi ov σ' σ1 pc' lv (.int r1 :: rest)) : ob_V g w mi ov σ' σ pc lv st := by
  subst hp
  intro p e s m args below meth c C H locs ls hW hl
  have hts := C.2.2.2.2.2.1
  cases hF : F with
  | none => rw [hF] at hf; cases hf
  | some q =>
    obtain ⟨r1, σ1⟩ := q
    rw [hF] at hf
    exact ob_callG (ov1 := some (.int r1)) (kk r1 σ1 hf) C hW hl (va_runSN (As := As) (rest := rest) ⟨C.1, C.2.1, C.2.2.1, C.2.2.2.2.1, C.2.2.2.2.2.1⟩ (hc r1 σ1 hF H.size) ⟨va_cnB n hts hG hw h0.1 h0.2 (hN s C.2.2.2.2.2.2.2.2.2.2) (hts _ hi.1) h5 h6, hts _ hi.2, trivial⟩ ⟨ob_blind g w σ H.size _, fun U hU hw => ⟨rfl, ob_preU C hW U hU hw⟩⟩ rfl hn hl.1 hst (lv_room hro) hd ⟨Nat.zero_le _, Nat.zero_le _⟩)
/-- LEAST[i], GREATEST[i]: the static row of numbers, from a nest mate or from the class itself -/
theorem vv_gstN {idx : Nat} {host Cn n d : String} {v : Value} (hd : decode mi.2.2.1 pc = .ok (.getstatic idx, 3)) (hN : ∀ u : State, ob_S3 g u → va_Nw (.fieldLinkNest mi.1.cls idx Cn n d host) u) (hZ : ∀ (u : State) (A : Nat → Prop), ob_S g A u u.heap → va_Z Cn n d v A u u.heap) (pc' : Nat) (hp : pc + 3 = pc') (kk : ob_V g w mi ov σ' σ pc' lv (v :: st)) : ob_V g w mi ov σ' σ pc lv st := by
  subst hp
  intro p e s m args below meth c C H locs ls hW hl
  exact va_getsN C.1 C.2.1 (hZ s _ C.2.2.2.2.2.2.2.2) hW.2.2 C.2.2.2.2.1 (va_Nw.use rfl (hN s C.2.2.2.2.2.2.2.2.2.2)) (fun _ h => h) hd (kk p e s m args below meth c C H locs ls hW hl)
theorem vv_gst {idx : Nat} {Cn n d : String} {v : Value} (hd : decode mi.2.2.1 pc = .ok (.getstatic idx, 3)) (hm : Cond.fieldLink mi.1.cls idx Cn n d ∈ mi.2.1) (hZ : ∀ (u : State) (A : Nat → Prop), ob_S g A u u.heap → va_Z Cn n d v A u u.heap) (pc' : Nat) (hp : pc + 3 = pc') (kk : ob_V g w mi ov σ' σ pc' lv (v :: st)) : ob_V g w mi ov σ' σ pc lv st := by
  subst hp
  intro p e s m args below meth c C H locs ls hW hl
  exact va_gets C.1 C.2.1 (hZ s _ C.2.2.2.2.2.2.2.2) hW.2.2 C.2.2.2.2.1 (C.2.2.2.2.2.1 _ hm) (fun _ h => h) hd (kk p e s m args below meth c C H locs ls hW hl)
def ob_lt {α : Type} (f : Nat → Int32) (n : Nat) (i : Int32) (K : Int32 → Option α) : Option α := if ob_in i n = true then K (f i.toNatClampNeg) else none
theorem vv_tald {α : Type} {r : α} {i : Int32} {K : Int32 → Option α} {t n : Nat} {f : Nat → Int32} (hd : decode mi.2.2.1 pc = .ok (.iaload, 1)) (hT : ∀ (u : State) (A : Nat → Prop), ob_S g A u u.heap → va_T .int t n (fun j => .int (f j)) A u u.heap) (pc' : Nat) (hp : pc + 1 = pc') (hf : ob_lt f n i K = some r) (kk : ∀ y : Int32, K y = some r → ob_V g w mi ov σ' σ pc' lv (.int y :: st)) : ob_V g w mi ov σ' σ pc lv (.int i :: .ref t :: st) := by
  subst hp
  intro p e s m args below meth c C H locs ls hW hl
  obtain ⟨h1, h2⟩ := ob_ifs hf
  exact va_ti C.1 C.2.1 (hT s _ C.2.2.2.2.2.2.2.2) hW.2.2 (ob_in_vp h1) rfl hd (kk _ h2 p e s m args below meth c C H locs ls hW hl)
end OBV
section OBV2
variable {g : ob_GT} {w : ob_WT} {mi : ob_MI} {ov : Option Value} {σ σ' : ob_St} {pc : Nat} {lv : List (Nat × Value)} {st : List Value}
/-! VIRTUAL CALLS on a cell whose class inherits the method (C: the object's class; x: what is named; y: what is run) or overrides it; and super.m(..) -/
theorem ob_clAt {s : State} {ci : Nat} {Cn : String} {T : u_T} {N : Nat} (hK : va_K g.2.1 vwCl (ob_tys g) s) (hcl : vwCl[ci]? = some (Cn, T, N)) : ClassAt s Cn (g.2.1.1 ci) := (hK.1 ci _ hcl).2
def ob_ld' (mj : ob_MI) (n : Nat) (d : String) : Prop := (parseMethodDescriptor d).map (fun q => q.parameters.length) = some n
theorem vv_callU {α : Type} {r : α} {F : Option (Int32 × ob_St)} {K : Int32 → ob_St → Option α} {mj : ob_MI} {b idx n : Nat} {Cn owner : String} {x : MethodName} (hd : decode mi.2.2.1 pc = .ok (.invokevirtual idx, 3)) (As rest : List Value) (hc : ∀ (r1 : Int32) (σ1 : ob_St), F = some (r1, σ1) → ob_CT g w mj (.ref b :: As) σ (some (.int r1)) σ1) (hR : ob_Rec g w σ Cn b)
    (hi : mi.2.1 = Cond.code mi.1 mi.2.2.1 mi.2.2.2.1 mi.2.2.2.2.1 :: ob_all) (hj : mj.2.1 = Cond.code mj.1 mj.2.2.1 mj.2.2.2.1 mj.2.2.2.2.1 :: ob_all) (h1 : Cond.methodLink mi.1.cls idx x ∈ ob_all) (h2 : Cond.sameMethod x.cls owner x.name x.desc ∈ ob_all) (h3 : Cond.selects Cn x mj.1 ∈ ob_all) (h4 : Cond.instanceMethod mj.1 ∈ ob_all) (h5 : Cond.initialized mj.1.cls ∈ ob_all) (h6 : Cond.code mj.1 mj.2.2.1 mj.2.2.2.1 mj.2.2.2.2.1 ∈ ob_all)
    (hyx : mj.1 = ⟨owner, x.name, x.desc⟩ ∨ (Cond.instanceMethod ⟨owner, x.name, x.desc⟩ ∈ ob_all ∧ ∃ b0 m0 r0, Cond.code ⟨owner, x.name, x.desc⟩ b0 m0 r0 ∈ ob_all)) (h0 : mj.2.2.2.2.2.cells = 0 ∧ mj.2.2.2.2.2.slots = 0) (hq : owner ≠ "java/lang/invoke/MethodHandle" ∧ owner ≠ "java/lang/invoke/VarHandle" ∧ (parseMethodDescriptor x.desc).map (fun d => d.parameters.length) = some n) (hm : mj.2.2.2.2.2.frames + 1 ≤ mi.2.2.2.2.2.frames ∧ 8 + (mj.2.2.2.1 + 11) + mj.2.2.2.2.2.locals ≤ mi.2.2.2.2.2.locals)
    (hn : As.length = n) (hro : (rest.map fun v => v.category).sum ≤ 8) (pc' : Nat) (hp : pc + 3 = pc') (hst : st = As.reverse ++ .ref b :: rest) (hf : ob_bd F K = some r) (kk : ∀ (r1 : Int32) (σ1 : ob_St), K r1 σ1 = some r → ob_V g w mi ov σ' σ1 pc' lv (.int r1 :: rest)) : ob_V g w mi ov σ' σ pc lv st := by
  subst hp
  intro p e s m args below meth c C H locs ls hW hl
  have hb : ∀ w ∈ ob_all, w ∈ mi.2.1 := fun w h => by rw [hi]; exact List.mem_cons_of_mem _ h
  have hw : mj.2.1 = Cond.code mj.1 mj.2.2.1 mj.2.2.2.1 mj.2.2.2.2.1 :: mj.2.1.tail := by rw [hj]; rfl
  have hGj : GoodIn mi.2.1 mj.2.1 := by rw [hj]; exact ob_good hb h6
  have hts := C.2.2.2.2.2.1
  cases hF : F with
  | none => rw [hF] at hf; cases hf
  | some q =>
    obtain ⟨r1, σ1⟩ := q
    rw [hF] at hf
    have cw : va_CU mi.2.2.2.2.2 s args mi.1.cls Cn owner idx x mj.1 mj.2.2.1 mj.2.2.2.1 mj.2.2.2.2.1 mj.2.1 mj.2.2.2.2.2 0 0 n := by
      rcases hyx with hyx | ⟨hy1, b0, m0, r0, hy2⟩
      · refine va_cwU n hts ?_ hw h0.1 h0.2 hyx hq hm
        unfold va_wsU
        refine ob_goodA hb _ ?_ hGj
        intro w hw
        simp only [List.mem_cons, List.not_mem_nil, or_false] at hw
        rcases hw with rfl | rfl | rfl | rfl | rfl
        · exact h1
        · exact h2
        · exact h3
        · exact h4
        · exact h5
      · refine va_cwO n hts ?_ hw h0.1 h0.2 (hb _ hy2) hq hm
        unfold va_wsO
        refine ob_goodA hb _ ?_ hGj
        intro w hw
        simp only [List.mem_cons, List.not_mem_nil, or_false] at hw
        rcases hw with rfl | rfl | rfl | rfl | rfl | rfl
        · exact h1
        · exact h2
        · exact hy1
        · exact h3
        · exact h4
        · exact h5
    exact ob_callG (ov1 := some (.int r1)) (kk r1 σ1 hf) C hW hl (va_runU (As := As) (rest := rest) ⟨C.1, C.2.1, C.2.2.1, C.2.2.2.2.1, C.2.2.2.2.2.1⟩ (hc r1 σ1 hF H.size) cw ⟨ob_blind g w σ H.size _, hR s H locs C.2.2.2.2.2.2.2.1 C.2.2.2.2.2.2.2.2 hW, fun U hU hw => ⟨rfl, ob_preU C hW U hU hw⟩⟩ rfl hn hl.1 hst (lv_room hro) hd ⟨Nat.zero_le _, Nat.zero_le _⟩)
/-- super.m(..): the superclass's own method, or one that the superclass inherits (owner) -/
theorem vv_callP {α : Type} {r : α} {F : Option (Int32 × ob_St)} {K : Int32 → ob_St → Option α} {mj : ob_MI} {b idx n ci : Nat} {Cn : String} {T : u_T} {N : Nat} {x : MethodName} (hd : decode mi.2.2.1 pc = .ok (.invokespecial idx, 3)) (As rest : List Value) (hc : ∀ (r1 : Int32) (σ1 : ob_St), F = some (r1, σ1) → ob_CT g w mj (.ref b :: As) σ (some (.int r1)) σ1) (hR : ob_Rec g w σ Cn b) (hcl : vwCl[ci]? = some (Cn, T, N))
    (hi : mi.2.1 = Cond.code mi.1 mi.2.2.1 mi.2.2.2.1 mi.2.2.2.2.1 :: ob_all) (hj : mj.2.1 = Cond.code mj.1 mj.2.2.1 mj.2.2.2.1 mj.2.2.2.2.1 :: ob_all) (h1 : Cond.methodLink mi.1.cls idx x ∈ ob_all) (h2 : Cond.sameMethod x.cls mj.1.cls x.name x.desc ∈ ob_all) (h3 : Cond.superclass mi.1.cls x.cls ∈ ob_all) (h4 : Cond.instanceMethod mj.1 ∈ ob_all) (h5 : Cond.initialized mj.1.cls ∈ ob_all) (h6 : Cond.code mj.1 mj.2.2.1 mj.2.2.2.1 mj.2.2.2.2.1 ∈ ob_all)
    (hyx : mj.1 = ⟨mj.1.cls, x.name, x.desc⟩) (hup : x.cls = mj.1.cls ∨ Cond.superclass x.cls mj.1.cls ∈ ob_all) (h0 : mj.2.2.2.2.2.cells = 0 ∧ mj.2.2.2.2.2.slots = 0) (hq : x.name ≠ "<init>" ∧ (parseMethodDescriptor mj.1.desc).map (fun d => d.parameters.length) = some n) (hm : mj.2.2.2.2.2.frames + 1 ≤ mi.2.2.2.2.2.frames ∧ 8 + (mj.2.2.2.1 + 11) + mj.2.2.2.2.2.locals ≤ mi.2.2.2.2.2.locals)
    (hn : As.length = n) (hro : (rest.map fun v => v.category).sum ≤ 8) (pc' : Nat) (hp : pc + 3 = pc') (hst : st = As.reverse ++ .ref b :: rest) (hf : ob_bd F K = some r) (kk : ∀ (r1 : Int32) (σ1 : ob_St), K r1 σ1 = some r → ob_V g w mi ov σ' σ1 pc' lv (.int r1 :: rest)) : ob_V g w mi ov σ' σ pc lv st := by
  subst hp
  intro p e s m args below meth c C H locs ls hW hl
  have hb : ∀ w ∈ ob_all, w ∈ mi.2.1 := fun w h => by rw [hi]; exact List.mem_cons_of_mem _ h
  have hw : mj.2.1 = Cond.code mj.1 mj.2.2.1 mj.2.2.2.1 mj.2.2.2.2.1 :: mj.2.1.tail := by rw [hj]; rfl
  have hGj : GoodIn mi.2.1 mj.2.1 := by rw [hj]; exact ob_good hb h6
  have hts := C.2.2.2.2.2.1
  have tb : ∀ w ∈ ob_all, w.before args s = true := fun w h => hts w (hb w h)
  cases hF : F with
  | none => rw [hF] at hf; cases hf
  | some q =>
    obtain ⟨r1, σ1⟩ := q
    rw [hF] at hf
    refine ob_callG (ov1 := some (.int r1)) (a := (Value.ref b :: As).toArray) (rest := rest) (kk r1 σ1 hf) C hW hl ?_
    have hM := hc r1 σ1 hF H.size
    have hcw : Cond.code mj.1 mj.2.2.1 mj.2.2.2.1 mj.2.2.2.2.1 ∈ mj.2.1 := by rw [hj]; exact List.mem_cons_self
    have hK : Back g.1 mi.2.2.2.2.2 p e below s args mj.1 3 8 (PreOf mi.2.2.2.2.2 0 0 (va_Pc (.ref b :: As) (ob_Pre g w σ H.size))) (PostOf (ob_Q g w (some (.int r1)) σ1) 0 0 (ob_A w H.size)) := back_of (bytes := mj.2.2.1) (maxL := mj.2.2.2.1) (ret := mj.2.2.2.2.1) hM (ob_blind g w σ H.size _) h0.1 h0.2 hm.1 hm.2 (pay_in hts hGj) hcw (fun a' U hW => word_at hW (Or.inl (by first | rfl | simp [Cond.onTables, Cond.keeps, Cond.steady])) (tb _ h5))
    obtain ⟨cellB, hcB, hoB, hclB⟩ := hR s H locs C.2.2.2.2.2.2.2.1 C.2.2.2.2.2.2.2.2 hW
    obtain ⟨hfc, kB, hkB, -⟩ := ob_clAt (g := g) C.2.2.2.2.2.2.2.1 hcl
    have hcc : cellB.cls = g.2.1.1 ci := Option.some.inj (hclB.symm.trans hfc)
    rw [← hcc] at hkB
    obtain ⟨mk, methM, hnamed, hmethM, hstM, habM⟩ := Cond.instanceMethod_spec (tb _ h4)
    obtain ⟨methM', cM, hmethM', -, -, -, -, -, -, hsigM⟩ := Cond.code_spec hnamed (tb _ h6)
    cases hmethM.symm.trans hmethM'
    obtain ⟨ps, dk, kp, hps, hdk, hkp, hsuper, -, -, hnid⟩ := Cond.superclass_spec C.2.2.2.2.1 (tb _ h3)
    have hmc : s.vm.findClass mj.1.cls = some mk.cls := findClass_of_methodNamed hnamed
    have hn2 : s.methodNamed? ⟨mj.1.cls, x.name, x.desc⟩ = some mk := by rw [← hyx]; exact hnamed
    have hsub : s.vm.isSubclass ps mk.cls = true := by
      rcases hup with hup | hup
      · have e1 : ps = mk.cls := by rw [hup] at hps; exact Option.some.inj (hps.symm.trans hmc)
        rw [e1]; simp [Vm.isSubclass, Vm.isSubclassAux]
      · obtain ⟨pp, k2, kq, hpp, hk2, hkq, hsup2, -, -, -⟩ := Cond.superclass_spec hps (tb _ hup)
        have e1 : pp = mk.cls := Option.some.inj (hpp.symm.trans hmc)
        have hsz : 0 < s.vm.classes.size := by
          have z := (Array.getElem?_eq_some_iff.mp hk2).1
          omega
        obtain ⟨z, hz⟩ : ∃ z, s.vm.classes.size = z + 1 := ⟨s.vm.classes.size - 1, by omega⟩
        simp only [Vm.isSubclass, hz, Vm.isSubclassAux, hk2, hsup2, e1]
        simp
    intro T0 hT X
    have hlen2 : As.length = methM.sig.parameters.length := by
      have h2 := hq.2
      rw [hsigM] at h2
      rw [hn]; exact (Option.some.inj h2).symm
    obtain ⟨vm₁, X₁, hstep₁⟩ := X.invokespecialUp C.1 C.2.2.2.2.1 (tb _ h1) (tb _ h2) hn2 hmethM hstM habM hq.1 hdk hnid hps hsuper hsub (a := b) (cell := cellB) (by rw [hT]; exact hcB)
      (fun z h => by rw [h] at hoB; cases hoB) hkB (g := F0 m pc ls st) rfl (argsL := As) (rest := rest) hlen2 hst (by rw [C.2.1]; exact hd)
    have hlsz : ls.size = c.maxLocals := hl.1.trans C.2.2.1.symm
    obtain ⟨v, B, X', hpost, hsteps⟩ := hK m meth c ⟨T0.setVm vm₁, locs, 0, 0⟩ { (F0 m pc ls st) with stack := rest } (.invokespecial idx) mk (Value.ref b :: As).toArray X₁ rfl hlsz (by rw [C.2.1]; exact hd) (lv_room hro) (X₁.named hnamed) ⟨Nat.zero_le _, Nat.zero_le _, rfl, ob_preU C hW (T0.setVm vm₁) hT X₁.warmed⟩
    obtain ⟨U', l2, c2, s2⟩ := B
    obtain ⟨g', mk', t, L, e1, e2, hq9, h9, hL, h10, h11⟩ := hpost
    dsimp only [Pt.U, Pt.locs, Pt.cells, Pt.slots] at X' e1 e2 h9 h10 h11 hsteps
    subst h9; subst h10; subst h11
    exact ⟨v, (T0.setVm vm₁).calling g' mk' (Value.ref b :: As).toArray, t, U', L, hT, X', hL, e1, e2, hq9, fun target h => hstep₁ _ (by rw [doInvoke_state]; exact hsteps.trans h)⟩
end OBV2
end
section
theorem tw_48 : (Jvm.Cond.initialized "BoxOnARope") ∈ ob_all := ob_allI 48 (by decide +kernel) (by decide +kernel)
theorem tw_49 : (Jvm.Cond.initialized "BoxOnARope$Kitchen") ∈ ob_all := ob_allI 49 (by decide +kernel) (by decide +kernel)
theorem tw_64 : (Jvm.Cond.initialized "java/lang/Math") ∈ ob_all := ob_allI 64 (by decide +kernel) (by decide +kernel)
theorem tw_66 : (Jvm.Cond.initialized "java/lang/System") ∈ ob_all := ob_allI 66 (by decide +kernel) (by decide +kernel)
theorem tw_81 : (Jvm.Cond.fieldLink "BoxOnARope$Kitchen" (36 : Nat) "BoxOnARope$Kitchen" "dishes" "I") ∈ ob_all := ob_allI 81 (by decide +kernel) (by decide +kernel)
theorem tw_84 : (Jvm.Cond.fieldLink "BoxOnARope$Kitchen" (9 : Nat) "BoxOnARope$Kitchen" "kind" "[I") ∈ ob_all := ob_allI 84 (by decide +kernel) (by decide +kernel)
theorem tw_87 : (Jvm.Cond.fieldLink "BoxOnARope$Kitchen" (15 : Nat) "BoxOnARope$Kitchen" "weight" "[I") ∈ ob_all := ob_allI 87 (by decide +kernel) (by decide +kernel)
theorem tw_90 : (Jvm.Cond.fieldLink "BoxOnARope$Kitchen" (18 : Nat) "BoxOnARope$Kitchen" "heat" "[I") ∈ ob_all := ob_allI 90 (by decide +kernel) (by decide +kernel)
theorem tw_93 : (Jvm.Cond.fieldLink "BoxOnARope$Kitchen" (21 : Nat) "BoxOnARope$Kitchen" "plates" "[I") ∈ ob_all := ob_allI 93 (by decide +kernel) (by decide +kernel)
theorem tw_96 : (Jvm.Cond.fieldLink "BoxOnARope$Kitchen" (24 : Nat) "BoxOnARope$Kitchen" "course" "[I") ∈ ob_all := ob_allI 96 (by decide +kernel) (by decide +kernel)
theorem tw_99 : (Jvm.Cond.fieldLink "BoxOnARope$Kitchen" (27 : Nat) "BoxOnARope$Kitchen" "order" "[I") ∈ ob_all := ob_allI 99 (by decide +kernel) (by decide +kernel)
theorem tw_101 : (Jvm.Cond.fieldLink "BoxOnARope$Kitchen" (30 : Nat) "BoxOnARope$Kitchen" "told" "[I") ∈ ob_all := ob_allI 101 (by decide +kernel) (by decide +kernel)
theorem tw_103 : (Jvm.Cond.fieldLink "BoxOnARope$Kitchen" (33 : Nat) "BoxOnARope$Kitchen" "box" "[I") ∈ ob_all := ob_allI 103 (by decide +kernel) (by decide +kernel)
theorem tw_106 : (Jvm.Cond.lays "BoxOnARope$Kitchen" "BoxOnARope$Kitchen" "dishes" "I") ∈ ob_all := ob_allI 106 (by decide +kernel) (by decide +kernel)
theorem tw_108 : (Jvm.Cond.laysFinal "BoxOnARope$Kitchen" "BoxOnARope$Kitchen" "kind" "[I") ∈ ob_all := ob_allI 108 (by decide +kernel) (by decide +kernel)
theorem tw_110 : (Jvm.Cond.laysFinal "BoxOnARope$Kitchen" "BoxOnARope$Kitchen" "weight" "[I") ∈ ob_all := ob_allI 110 (by decide +kernel) (by decide +kernel)
theorem tw_112 : (Jvm.Cond.laysFinal "BoxOnARope$Kitchen" "BoxOnARope$Kitchen" "heat" "[I") ∈ ob_all := ob_allI 112 (by decide +kernel) (by decide +kernel)
theorem tw_114 : (Jvm.Cond.laysFinal "BoxOnARope$Kitchen" "BoxOnARope$Kitchen" "plates" "[I") ∈ ob_all := ob_allI 114 (by decide +kernel) (by decide +kernel)
theorem tw_116 : (Jvm.Cond.laysFinal "BoxOnARope$Kitchen" "BoxOnARope$Kitchen" "course" "[I") ∈ ob_all := ob_allI 116 (by decide +kernel) (by decide +kernel)
theorem tw_118 : (Jvm.Cond.laysFinal "BoxOnARope$Kitchen" "BoxOnARope$Kitchen" "order" "[I") ∈ ob_all := ob_allI 118 (by decide +kernel) (by decide +kernel)
theorem tw_120 : (Jvm.Cond.laysFinal "BoxOnARope$Kitchen" "BoxOnARope$Kitchen" "told" "[I") ∈ ob_all := ob_allI 120 (by decide +kernel) (by decide +kernel)
theorem tw_122 : (Jvm.Cond.laysFinal "BoxOnARope$Kitchen" "BoxOnARope$Kitchen" "box" "[I") ∈ ob_all := ob_allI 122 (by decide +kernel) (by decide +kernel)
theorem tw_135 : (Jvm.Cond.laysFinal "BoxOnARope$Telling" "BoxOnARope$Telling" "letters" "[I") ∈ ob_all := ob_allI 135 (by decide +kernel) (by decide +kernel)
theorem tw_137 : (Jvm.Cond.lays "BoxOnARope$Telling" "BoxOnARope$Telling" "length" "I") ∈ ob_all := ob_allI 137 (by decide +kernel) (by decide +kernel)
theorem tw_208 : (Jvm.Cond.laysFinal "BoxOnARope$Evening" "BoxOnARope$Evening" "kinds" "[LBoxOnARope$Plain;") ∈ ob_all := ob_allI 208 (by decide +kernel) (by decide +kernel)
theorem tw_210 : (Jvm.Cond.laysFinal "BoxOnARope$Evening" "BoxOnARope$Evening" "line" "[I") ∈ ob_all := ob_allI 210 (by decide +kernel) (by decide +kernel)
theorem tw_212 : (Jvm.Cond.lays "BoxOnARope$Evening" "BoxOnARope$Evening" "inLine" "I") ∈ ob_all := ob_allI 212 (by decide +kernel) (by decide +kernel)
theorem tw_214 : (Jvm.Cond.laysFinal "BoxOnARope$Evening" "BoxOnARope$Evening" "up" "[I") ∈ ob_all := ob_allI 214 (by decide +kernel) (by decide +kernel)
theorem tw_216 : (Jvm.Cond.laysFinal "BoxOnARope$Evening" "BoxOnARope$Evening" "served" "[I") ∈ ob_all := ob_allI 216 (by decide +kernel) (by decide +kernel)
theorem tw_218 : (Jvm.Cond.laysFinal "BoxOnARope$Evening" "BoxOnARope$Evening" "warm" "[I") ∈ ob_all := ob_allI 218 (by decide +kernel) (by decide +kernel)
theorem tw_220 : (Jvm.Cond.laysFinal "BoxOnARope$Evening" "BoxOnARope$Evening" "late" "[I") ∈ ob_all := ob_allI 220 (by decide +kernel) (by decide +kernel)
theorem tw_222 : (Jvm.Cond.laysFinal "BoxOnARope$Evening" "BoxOnARope$Evening" "go" "[I") ∈ ob_all := ob_allI 222 (by decide +kernel) (by decide +kernel)
theorem tw_224 : (Jvm.Cond.laysFinal "BoxOnARope$Evening" "BoxOnARope$Evening" "stood" "[I") ∈ ob_all := ob_allI 224 (by decide +kernel) (by decide +kernel)
theorem tw_226 : (Jvm.Cond.laysFinal "BoxOnARope$Evening" "BoxOnARope$Evening" "slops" "[I") ∈ ob_all := ob_allI 226 (by decide +kernel) (by decide +kernel)
theorem tw_228 : (Jvm.Cond.laysFinal "BoxOnARope$Evening" "BoxOnARope$Evening" "totals" "[I") ∈ ob_all := ob_allI 228 (by decide +kernel) (by decide +kernel)
theorem tw_240 : (Jvm.Cond.laysFinal "BoxOnARope$Orders" "BoxOnARope$Orders" "line" "[I") ∈ ob_all := ob_allI 240 (by decide +kernel) (by decide +kernel)
theorem tw_242 : (Jvm.Cond.lays "BoxOnARope$Orders" "BoxOnARope$Orders" "dishes" "I") ∈ ob_all := ob_allI 242 (by decide +kernel) (by decide +kernel)
theorem tw_256 : (Jvm.Cond.laysFinal "BoxOnARope" "BoxOnARope" "now" "LBoxOnARope$Kitchen;") ∈ ob_all := ob_allI 256 (by decide +kernel) (by decide +kernel)
theorem tw_258 : (Jvm.Cond.laysFinal "BoxOnARope" "BoxOnARope" "trial" "LBoxOnARope$Kitchen;") ∈ ob_all := ob_allI 258 (by decide +kernel) (by decide +kernel)
theorem tw_260 : (Jvm.Cond.laysFinal "BoxOnARope" "BoxOnARope" "kept" "LBoxOnARope$Kitchen;") ∈ ob_all := ob_allI 260 (by decide +kernel) (by decide +kernel)
theorem tw_262 : (Jvm.Cond.lays "BoxOnARope" "BoxOnARope" "hasKept" "Z") ∈ ob_all := ob_allI 262 (by decide +kernel) (by decide +kernel)
theorem tw_264 : (Jvm.Cond.laysFinal "BoxOnARope" "BoxOnARope" "telling" "LBoxOnARope$Telling;") ∈ ob_all := ob_allI 264 (by decide +kernel) (by decide +kernel)
theorem tw_266 : (Jvm.Cond.laysFinal "BoxOnARope" "BoxOnARope" "evening" "LBoxOnARope$Evening;") ∈ ob_all := ob_allI 266 (by decide +kernel) (by decide +kernel)
theorem tw_268 : (Jvm.Cond.laysFinal "BoxOnARope" "BoxOnARope" "orders" "LBoxOnARope$Orders;") ∈ ob_all := ob_allI 268 (by decide +kernel) (by decide +kernel)
theorem tw_270 : (Jvm.Cond.laysFinal "BoxOnARope" "BoxOnARope" "found" "[I") ∈ ob_all := ob_allI 270 (by decide +kernel) (by decide +kernel)
theorem tw_272 : (Jvm.Cond.laysFinal "BoxOnARope" "BoxOnARope" "told" "[I") ∈ ob_all := ob_allI 272 (by decide +kernel) (by decide +kernel)
theorem tw_274 : (Jvm.Cond.lays "BoxOnARope" "BoxOnARope" "toldCount" "I") ∈ ob_all := ob_allI 274 (by decide +kernel) (by decide +kernel)
theorem tw_276 : (Jvm.Cond.laysFinal "BoxOnARope" "BoxOnARope" "refusals" "[I") ∈ ob_all := ob_allI 276 (by decide +kernel) (by decide +kernel)
theorem tw_384 : (Jvm.Cond.static ({ cls := "java/lang/Math", name := "max", desc := "(II)I" } : Jvm.MethodName)) ∈ ob_all := ob_allI 384 (by decide +kernel) (by decide +kernel)
theorem tw_385 : (Jvm.Cond.code ({ cls := "java/lang/Math", name := "max", desc := "(II)I" } : Jvm.MethodName) prog_15_method_65_code (2 : Nat) (Option.some Jvm.ClassFile.FieldType.int)) ∈ ob_all := ob_allI 385 (by decide +kernel) (by decide +kernel)
theorem tw_431 : (Jvm.Cond.methodLink "BoxOnARope$Kitchen" (40 : Nat) ({ cls := "java/lang/System", name := "arraycopy", desc := "(Ljava/lang/Object;ILjava/lang/Object;II)V" } : Jvm.MethodName)) ∈ ob_all := ob_allI 431 (by decide +kernel) (by decide +kernel)
theorem tw_432 : (Jvm.Cond.static ({ cls := "java/lang/System", name := "arraycopy", desc := "(Ljava/lang/Object;ILjava/lang/Object;II)V" } : Jvm.MethodName)) ∈ ob_all := ob_allI 432 (by decide +kernel) (by decide +kernel)
theorem tw_433 : (Jvm.Cond.native ({ cls := "java/lang/System", name := "arraycopy", desc := "(Ljava/lang/Object;ILjava/lang/Object;II)V" } : Jvm.MethodName)) ∈ ob_all := ob_allI 433 (by decide +kernel) (by decide +kernel)
theorem tw_451 : (Jvm.Cond.static ({ cls := "BoxOnARope", name := "isCourse", desc := "(I)Z" } : Jvm.MethodName)) ∈ ob_all := ob_allI 451 (by decide +kernel) (by decide +kernel)
theorem tw_452 : (Jvm.Cond.code ({ cls := "BoxOnARope", name := "isCourse", desc := "(I)Z" } : Jvm.MethodName) prog_1_method_33_code (1 : Nat) (Option.some Jvm.ClassFile.FieldType.boolean)) ∈ ob_all := ob_allI 452 (by decide +kernel) (by decide +kernel)
theorem tw_469 : (Jvm.Cond.methodLink "BoxOnARope$Kitchen" (46 : Nat) ({ cls := "BoxOnARope$Kitchen", name := "hasDish", desc := "(I)Z" } : Jvm.MethodName)) ∈ ob_all := ob_allI 469 (by decide +kernel) (by decide +kernel)
theorem tw_470 : (Jvm.Cond.instanceMethod ({ cls := "BoxOnARope$Kitchen", name := "hasDish", desc := "(I)Z" } : Jvm.MethodName)) ∈ ob_all := ob_allI 470 (by decide +kernel) (by decide +kernel)
theorem tw_471 : (Jvm.Cond.selects "BoxOnARope$Kitchen" ({ cls := "BoxOnARope$Kitchen", name := "hasDish", desc := "(I)Z" } : Jvm.MethodName) ({ cls := "BoxOnARope$Kitchen", name := "hasDish", desc := "(I)Z" } : Jvm.MethodName)) ∈ ob_all := ob_allI 471 (by decide +kernel) (by decide +kernel)
theorem tw_472 : (Jvm.Cond.code ({ cls := "BoxOnARope$Kitchen", name := "hasDish", desc := "(I)Z" } : Jvm.MethodName) prog_5_method_3_code (2 : Nat) (Option.some Jvm.ClassFile.FieldType.boolean)) ∈ ob_all := ob_allI 472 (by decide +kernel) (by decide +kernel)
theorem tw_519 : (Jvm.Cond.methodLink "BoxOnARope$Kitchen" (59 : Nat) ({ cls := "java/lang/Math", name := "abs", desc := "(I)I" } : Jvm.MethodName)) ∈ ob_all := ob_allI 519 (by decide +kernel) (by decide +kernel)
theorem tw_520 : (Jvm.Cond.static ({ cls := "java/lang/Math", name := "abs", desc := "(I)I" } : Jvm.MethodName)) ∈ ob_all := ob_allI 520 (by decide +kernel) (by decide +kernel)
theorem tw_521 : (Jvm.Cond.code ({ cls := "java/lang/Math", name := "abs", desc := "(I)I" } : Jvm.MethodName) prog_15_method_59_code (1 : Nat) (Option.some Jvm.ClassFile.FieldType.int)) ∈ ob_all := ob_allI 521 (by decide +kernel) (by decide +kernel)
theorem tw_522 : (Jvm.Cond.methodLink "BoxOnARope$Kitchen" (65 : Nat) ({ cls := "java/lang/Math", name := "max", desc := "(II)I" } : Jvm.MethodName)) ∈ ob_all := ob_allI 522 (by decide +kernel) (by decide +kernel)
theorem tw_782 : (Jvm.Cond.lays "BoxOnARopeModel" "BoxOnARopeModel" "dishes" "I") ∈ ob_all := ob_allI 782 (by decide +kernel) (by decide +kernel)
theorem tw_784 : (Jvm.Cond.laysFinal "BoxOnARopeModel" "BoxOnARopeModel" "kind" "[I") ∈ ob_all := ob_allI 784 (by decide +kernel) (by decide +kernel)
theorem tw_786 : (Jvm.Cond.laysFinal "BoxOnARopeModel" "BoxOnARopeModel" "weight" "[I") ∈ ob_all := ob_allI 786 (by decide +kernel) (by decide +kernel)
theorem tw_788 : (Jvm.Cond.laysFinal "BoxOnARopeModel" "BoxOnARopeModel" "heat" "[I") ∈ ob_all := ob_allI 788 (by decide +kernel) (by decide +kernel)
theorem tw_790 : (Jvm.Cond.laysFinal "BoxOnARopeModel" "BoxOnARopeModel" "plates" "[I") ∈ ob_all := ob_allI 790 (by decide +kernel) (by decide +kernel)
theorem tw_792 : (Jvm.Cond.laysFinal "BoxOnARopeModel" "BoxOnARopeModel" "course" "[I") ∈ ob_all := ob_allI 792 (by decide +kernel) (by decide +kernel)
theorem tw_794 : (Jvm.Cond.laysFinal "BoxOnARopeModel" "BoxOnARopeModel" "order" "[I") ∈ ob_all := ob_allI 794 (by decide +kernel) (by decide +kernel)
theorem tw_796 : (Jvm.Cond.laysFinal "BoxOnARopeModel" "BoxOnARopeModel" "set" "[I") ∈ ob_all := ob_allI 796 (by decide +kernel) (by decide +kernel)
theorem tw_798 : (Jvm.Cond.laysFinal "BoxOnARopeModel" "BoxOnARopeModel" "told" "[I") ∈ ob_all := ob_allI 798 (by decide +kernel) (by decide +kernel)
theorem tw_800 : (Jvm.Cond.lays "BoxOnARopeModel" "BoxOnARopeModel" "letters" "I") ∈ ob_all := ob_allI 800 (by decide +kernel) (by decide +kernel)
theorem tw_802 : (Jvm.Cond.laysFinal "BoxOnARopeModel" "BoxOnARopeModel" "letter" "[I") ∈ ob_all := ob_allI 802 (by decide +kernel) (by decide +kernel)
theorem tw_804 : (Jvm.Cond.lays "BoxOnARopeModel" "BoxOnARopeModel" "at" "I") ∈ ob_all := ob_allI 804 (by decide +kernel) (by decide +kernel)
theorem tw_806 : (Jvm.Cond.laysFinal "BoxOnARopeModel" "BoxOnARopeModel" "value" "[I") ∈ ob_all := ob_allI 806 (by decide +kernel) (by decide +kernel)
theorem tw_808 : (Jvm.Cond.lays "BoxOnARopeModel" "BoxOnARopeModel" "inRow" "I") ∈ ob_all := ob_allI 808 (by decide +kernel) (by decide +kernel)
theorem tw_810 : (Jvm.Cond.laysFinal "BoxOnARopeModel" "BoxOnARopeModel" "row" "[I") ∈ ob_all := ob_allI 810 (by decide +kernel) (by decide +kernel)
theorem tw_812 : (Jvm.Cond.laysFinal "BoxOnARopeModel" "BoxOnARopeModel" "refusals" "[I") ∈ ob_all := ob_allI 812 (by decide +kernel) (by decide +kernel)
theorem tw_814 : (Jvm.Cond.lays "BoxOnARopeModel" "BoxOnARopeModel" "imaged" "Z") ∈ ob_all := ob_allI 814 (by decide +kernel) (by decide +kernel)
theorem tw_816 : (Jvm.Cond.laysFinal "BoxOnARopeModel" "BoxOnARopeModel" "old" "[I") ∈ ob_all := ob_allI 816 (by decide +kernel) (by decide +kernel)
theorem tw_818 : (Jvm.Cond.laysFinal "BoxOnARopeModel" "BoxOnARopeModel" "ahead" "[I") ∈ ob_all := ob_allI 818 (by decide +kernel) (by decide +kernel)
theorem tw_820 : (Jvm.Cond.laysFinal "BoxOnARopeModel" "BoxOnARopeModel" "up" "[I") ∈ ob_all := ob_allI 820 (by decide +kernel) (by decide +kernel)
theorem tw_822 : (Jvm.Cond.laysFinal "BoxOnARopeModel" "BoxOnARopeModel" "go" "[I") ∈ ob_all := ob_allI 822 (by decide +kernel) (by decide +kernel)
theorem tw_824 : (Jvm.Cond.lays "BoxOnARopeModel" "BoxOnARopeModel" "many" "I") ∈ ob_all := ob_allI 824 (by decide +kernel) (by decide +kernel)
theorem tw_826 : (Jvm.Cond.lays "BoxOnARopeModel" "BoxOnARopeModel" "down" "I") ∈ ob_all := ob_allI 826 (by decide +kernel) (by decide +kernel)
theorem tw_828 : (Jvm.Cond.laysFinal "BoxOnARopeModel" "BoxOnARopeModel" "best" "[I") ∈ ob_all := ob_allI 828 (by decide +kernel) (by decide +kernel)
theorem uw_X1 : ∀ x ∈ wsX10, x ∈ ob_all := (List.forall_mem_cons.mpr ⟨tw_208, (List.forall_mem_cons.mpr ⟨tw_210, (List.forall_mem_cons.mpr ⟨tw_212, (List.forall_mem_cons.mpr ⟨tw_214, (List.forall_mem_cons.mpr ⟨tw_216, (List.forall_mem_cons.mpr ⟨tw_218, (List.forall_mem_cons.mpr ⟨tw_220, (List.forall_mem_cons.mpr ⟨tw_222, (List.forall_mem_cons.mpr ⟨tw_224, (List.forall_mem_cons.mpr ⟨tw_226, (List.forall_mem_cons.mpr ⟨tw_228, (fun _ h => absurd h List.not_mem_nil)⟩)⟩)⟩)⟩)⟩)⟩)⟩)⟩)⟩)⟩)⟩)
theorem uw_X3 : ∀ x ∈ wsX30, x ∈ ob_all := (List.forall_mem_cons.mpr ⟨tw_106, (List.forall_mem_cons.mpr ⟨tw_108, (List.forall_mem_cons.mpr ⟨tw_110, (List.forall_mem_cons.mpr ⟨tw_112, (List.forall_mem_cons.mpr ⟨tw_114, (List.forall_mem_cons.mpr ⟨tw_116, (List.forall_mem_cons.mpr ⟨tw_118, (List.forall_mem_cons.mpr ⟨tw_120, (List.forall_mem_cons.mpr ⟨tw_122, (fun _ h => absurd h List.not_mem_nil)⟩)⟩)⟩)⟩)⟩)⟩)⟩)⟩)⟩)
theorem uw_X5 : ∀ x ∈ wsX50, x ∈ ob_all := (List.forall_mem_cons.mpr ⟨tw_240, (List.forall_mem_cons.mpr ⟨tw_242, (fun _ h => absurd h List.not_mem_nil)⟩)⟩)
theorem uw_X9 : ∀ x ∈ wsX90, x ∈ ob_all := (List.forall_mem_cons.mpr ⟨tw_135, (List.forall_mem_cons.mpr ⟨tw_137, (fun _ h => absurd h List.not_mem_nil)⟩)⟩)
theorem uw_X10 : ∀ x ∈ wsX100, x ∈ ob_all := (List.forall_mem_cons.mpr ⟨tw_256, (List.forall_mem_cons.mpr ⟨tw_258, (List.forall_mem_cons.mpr ⟨tw_260, (List.forall_mem_cons.mpr ⟨tw_262, (List.forall_mem_cons.mpr ⟨tw_264, (List.forall_mem_cons.mpr ⟨tw_266, (List.forall_mem_cons.mpr ⟨tw_268, (List.forall_mem_cons.mpr ⟨tw_270, (List.forall_mem_cons.mpr ⟨tw_272, (List.forall_mem_cons.mpr ⟨tw_274, (List.forall_mem_cons.mpr ⟨tw_276, (fun _ h => absurd h List.not_mem_nil)⟩)⟩)⟩)⟩)⟩)⟩)⟩)⟩)⟩)⟩)⟩)
theorem uw_X11 : ∀ x ∈ wsX110, x ∈ ob_all := (List.forall_mem_cons.mpr ⟨tw_782, (List.forall_mem_cons.mpr ⟨tw_784, (List.forall_mem_cons.mpr ⟨tw_786, (List.forall_mem_cons.mpr ⟨tw_788, (List.forall_mem_cons.mpr ⟨tw_790, (List.forall_mem_cons.mpr ⟨tw_792, (List.forall_mem_cons.mpr ⟨tw_794, (List.forall_mem_cons.mpr ⟨tw_796, (List.forall_mem_cons.mpr ⟨tw_798, (List.forall_mem_cons.mpr ⟨tw_800, (List.forall_mem_cons.mpr ⟨tw_802, (List.forall_mem_cons.mpr ⟨tw_804, (List.forall_mem_cons.mpr ⟨tw_806, (List.forall_mem_cons.mpr ⟨tw_808, (List.forall_mem_cons.mpr ⟨tw_810, (List.forall_mem_cons.mpr ⟨tw_812, (List.forall_mem_cons.mpr ⟨tw_814, (List.forall_mem_cons.mpr ⟨tw_816, (List.forall_mem_cons.mpr ⟨tw_818, (List.forall_mem_cons.mpr ⟨tw_820, (List.forall_mem_cons.mpr ⟨tw_822, (List.forall_mem_cons.mpr ⟨tw_824, (List.forall_mem_cons.mpr ⟨tw_826, (List.forall_mem_cons.mpr ⟨tw_828, (fun _ h => absurd h List.not_mem_nil)⟩)⟩)⟩)⟩)⟩)⟩)⟩)⟩)⟩)⟩)⟩)⟩)⟩)⟩)⟩)⟩)⟩)⟩)⟩)⟩)⟩)⟩)⟩)⟩)
end
section
def ob_xsh : Nat → ob_Sh := fun k => match k with
  | 0 => .inr (.inl (10, [some 1, some 10, some 19, none, some 28, some 30, some 47, some 49, some 50, none, some 51]))
  | 1 => .inr (.inl (3, [none, some 2, some 3, some 4, some 5, some 6, some 7, some 8, some 9]))
  | 2 => .inl 6
  | 3 => .inl 6
  | 4 => .inl 6
  | 5 => .inl 6
  | 6 => .inl 6
  | 7 => .inl 6
  | 8 => .inl 5
  | 9 => .inl 6
  | 10 => .inr (.inl (3, [none, some 11, some 12, some 13, some 14, some 15, some 16, some 17, some 18]))
  | 11 => .inl 6
  | 12 => .inl 6
  | 13 => .inl 6
  | 14 => .inl 6
  | 15 => .inl 6
  | 16 => .inl 6
  | 17 => .inl 5
  | 18 => .inl 6
  | 19 => .inr (.inl (3, [none, some 20, some 21, some 22, some 23, some 24, some 25, some 26, some 27]))
  | 20 => .inl 6
  | 21 => .inl 6
  | 22 => .inl 6
  | 23 => .inl 6
  | 24 => .inl 6
  | 25 => .inl 6
  | 26 => .inl 5
  | 27 => .inl 6
  | 28 => .inr (.inl (9, [some 29, none]))
  | 29 => .inl 96
  | 30 => .inr (.inl (1, [some 31, some 38, none, some 39, some 40, some 41, some 42, some 43, some 44, some 45, some 46]))
  | 31 => .inr (.inr [32, 33, 34, 35, 36, 37])
  | 32 => .inr (.inl (6, []))
  | 33 => .inr (.inl (8, []))
  | 34 => .inr (.inl (4, []))
  | 35 => .inr (.inl (0, []))
  | 36 => .inr (.inl (2, []))
  | 37 => .inr (.inl (7, []))
  | 38 => .inl 6
  | 39 => .inl 6
  | 40 => .inl 6
  | 41 => .inl 6
  | 42 => .inl 6
  | 43 => .inl 6
  | 44 => .inl 6
  | 45 => .inl 6
  | 46 => .inl 8
  | 47 => .inr (.inl (5, [some 48, none]))
  | 48 => .inl 6
  | 49 => .inl 6
  | 50 => .inl 12
  | _ => .inl 6
def ob_msh : Nat → ob_Sh := fun k => match k with
  | 0 => .inr (.inl (11, [none, some 1, some 2, some 3, some 4, some 5, some 6, some 7, some 8, none, some 9, none, some 10, none, some 11, some 12, none, some 13, some 14, some 15, some 16, none, none, some 17]))
  | 1 => .inl 6
  | 2 => .inl 6
  | 3 => .inl 6
  | 4 => .inl 6
  | 5 => .inl 6
  | 6 => .inl 6
  | 7 => .inl 6
  | 8 => .inl 5
  | 9 => .inl 96
  | 10 => .inl 7
  | 11 => .inl 12
  | 12 => .inl 7
  | 13 => .inl 48
  | 14 => .inl 48
  | 15 => .inl 6
  | 16 => .inl 6
  | _ => .inl 6
abbrev ob_X (ad : Nat → Nat) : ob_WT := (52, ob_xsh, ad)
abbrev ob_M (ad : Nat → Nat) : ob_WT := (18, ob_msh, ad)
def ob_isK (b : Nat) : Prop := b = 1 ∨ b = 10 ∨ b = 19
theorem ob_kl {b : Nat} (j : Nat) (hb : ob_isK b) (hj : j < 9) : b + j < 52 := by rcases hb with rfl | rfl | rfl <;> omega
theorem ob_kl0 {b : Nat} (hb : ob_isK b) : b < 52 := by rcases hb with rfl | rfl | rfl <;> omega
theorem ob_ks {b : Nat} (hb : ob_isK b) : ob_xsh b = .inr (.inl (3, [none, some (b + 1), some (b + 2), some (b + 3), some (b + 4), some (b + 5), some (b + 6), some (b + 7), some (b + 8)])) := by rcases hb with rfl | rfl | rfl <;> rfl
theorem ob_ka1 {b : Nat} (hb : ob_isK b) : ob_xsh (b + 1) = .inl 6 := by rcases hb with rfl | rfl | rfl <;> rfl
theorem ob_ka2 {b : Nat} (hb : ob_isK b) : ob_xsh (b + 2) = .inl 6 := by rcases hb with rfl | rfl | rfl <;> rfl
theorem ob_ka3 {b : Nat} (hb : ob_isK b) : ob_xsh (b + 3) = .inl 6 := by rcases hb with rfl | rfl | rfl <;> rfl
theorem ob_ka4 {b : Nat} (hb : ob_isK b) : ob_xsh (b + 4) = .inl 6 := by rcases hb with rfl | rfl | rfl <;> rfl
theorem ob_ka5 {b : Nat} (hb : ob_isK b) : ob_xsh (b + 5) = .inl 6 := by rcases hb with rfl | rfl | rfl <;> rfl
theorem ob_ka6 {b : Nat} (hb : ob_isK b) : ob_xsh (b + 6) = .inl 6 := by rcases hb with rfl | rfl | rfl <;> rfl
theorem ob_ka7 {b : Nat} (hb : ob_isK b) : ob_xsh (b + 7) = .inl 5 := by rcases hb with rfl | rfl | rfl <;> rfl
theorem ob_ka8 {b : Nat} (hb : ob_isK b) : ob_xsh (b + 8) = .inl 6 := by rcases hb with rfl | rfl | rfl <;> rfl
theorem ob_l0 : (0 : Nat) < 52 := by decide
theorem ob_l1 : (1 : Nat) < 52 := by decide
theorem ob_l2 : (2 : Nat) < 52 := by decide
theorem ob_l3 : (3 : Nat) < 52 := by decide
theorem ob_l4 : (4 : Nat) < 52 := by decide
theorem ob_l5 : (5 : Nat) < 52 := by decide
theorem ob_l6 : (6 : Nat) < 52 := by decide
theorem ob_l7 : (7 : Nat) < 52 := by decide
theorem ob_l8 : (8 : Nat) < 52 := by decide
theorem ob_l9 : (9 : Nat) < 52 := by decide
theorem ob_l10 : (10 : Nat) < 52 := by decide
theorem ob_l11 : (11 : Nat) < 52 := by decide
theorem ob_l12 : (12 : Nat) < 52 := by decide
theorem ob_l13 : (13 : Nat) < 52 := by decide
theorem ob_l14 : (14 : Nat) < 52 := by decide
theorem ob_l15 : (15 : Nat) < 52 := by decide
theorem ob_l16 : (16 : Nat) < 52 := by decide
theorem ob_l17 : (17 : Nat) < 52 := by decide
theorem ob_l18 : (18 : Nat) < 52 := by decide
theorem ob_l19 : (19 : Nat) < 52 := by decide
theorem ob_l20 : (20 : Nat) < 52 := by decide
theorem ob_l21 : (21 : Nat) < 52 := by decide
theorem ob_l22 : (22 : Nat) < 52 := by decide
theorem ob_l23 : (23 : Nat) < 52 := by decide
theorem ob_l24 : (24 : Nat) < 52 := by decide
theorem ob_l25 : (25 : Nat) < 52 := by decide
theorem ob_l26 : (26 : Nat) < 52 := by decide
theorem ob_l27 : (27 : Nat) < 52 := by decide
theorem ob_l28 : (28 : Nat) < 52 := by decide
theorem ob_l29 : (29 : Nat) < 52 := by decide
theorem ob_l30 : (30 : Nat) < 52 := by decide
theorem ob_l31 : (31 : Nat) < 52 := by decide
theorem ob_l32 : (32 : Nat) < 52 := by decide
theorem ob_l33 : (33 : Nat) < 52 := by decide
theorem ob_l34 : (34 : Nat) < 52 := by decide
theorem ob_l35 : (35 : Nat) < 52 := by decide
theorem ob_l36 : (36 : Nat) < 52 := by decide
theorem ob_l37 : (37 : Nat) < 52 := by decide
theorem ob_l38 : (38 : Nat) < 52 := by decide
theorem ob_l39 : (39 : Nat) < 52 := by decide
theorem ob_l40 : (40 : Nat) < 52 := by decide
theorem ob_l41 : (41 : Nat) < 52 := by decide
theorem ob_l42 : (42 : Nat) < 52 := by decide
theorem ob_l43 : (43 : Nat) < 52 := by decide
theorem ob_l44 : (44 : Nat) < 52 := by decide
theorem ob_l45 : (45 : Nat) < 52 := by decide
theorem ob_l46 : (46 : Nat) < 52 := by decide
theorem ob_l47 : (47 : Nat) < 52 := by decide
theorem ob_l48 : (48 : Nat) < 52 := by decide
theorem ob_l49 : (49 : Nat) < 52 := by decide
theorem ob_l50 : (50 : Nat) < 52 := by decide
theorem ob_l51 : (51 : Nat) < 52 := by decide
theorem ob_m0 : (0 : Nat) < 18 := by decide
theorem ob_m1 : (1 : Nat) < 18 := by decide
theorem ob_m2 : (2 : Nat) < 18 := by decide
theorem ob_m3 : (3 : Nat) < 18 := by decide
theorem ob_m4 : (4 : Nat) < 18 := by decide
theorem ob_m5 : (5 : Nat) < 18 := by decide
theorem ob_m6 : (6 : Nat) < 18 := by decide
theorem ob_m7 : (7 : Nat) < 18 := by decide
theorem ob_m8 : (8 : Nat) < 18 := by decide
theorem ob_m9 : (9 : Nat) < 18 := by decide
theorem ob_m10 : (10 : Nat) < 18 := by decide
theorem ob_m11 : (11 : Nat) < 18 := by decide
theorem ob_m12 : (12 : Nat) < 18 := by decide
theorem ob_m13 : (13 : Nat) < 18 := by decide
theorem ob_m14 : (14 : Nat) < 18 := by decide
theorem ob_m15 : (15 : Nat) < 18 := by decide
theorem ob_m16 : (16 : Nat) < 18 := by decide
theorem ob_m17 : (17 : Nat) < 18 := by decide
theorem dX3_init_0 : decode cX3_init 0 = .ok (.aload_n 0, 1) := by decide +kernel
theorem dX3_init_1 : decode cX3_init 1 = .ok (.invokespecial 3, 3) := by decide +kernel
theorem dX3_init_4 : decode cX3_init 4 = .ok (.aload_n 0, 1) := by decide +kernel
theorem dX3_init_5 : decode cX3_init 5 = .ok (.bipush 6, 2) := by decide +kernel
theorem dX3_init_7 : decode cX3_init 7 = .ok (.newarray .int, 2) := by decide +kernel
theorem dX3_init_9 : decode cX3_init 9 = .ok (.putfield 9, 3) := by decide +kernel
theorem dX3_init_12 : decode cX3_init 12 = .ok (.aload_n 0, 1) := by decide +kernel
theorem dX3_init_13 : decode cX3_init 13 = .ok (.bipush 6, 2) := by decide +kernel
theorem dX3_init_15 : decode cX3_init 15 = .ok (.newarray .int, 2) := by decide +kernel
theorem dX3_init_17 : decode cX3_init 17 = .ok (.putfield 15, 3) := by decide +kernel
theorem dX3_init_20 : decode cX3_init 20 = .ok (.aload_n 0, 1) := by decide +kernel
theorem dX3_init_21 : decode cX3_init 21 = .ok (.bipush 6, 2) := by decide +kernel
theorem dX3_init_23 : decode cX3_init 23 = .ok (.newarray .int, 2) := by decide +kernel
theorem dX3_init_25 : decode cX3_init 25 = .ok (.putfield 18, 3) := by decide +kernel
theorem dX3_init_28 : decode cX3_init 28 = .ok (.aload_n 0, 1) := by decide +kernel
theorem dX3_init_29 : decode cX3_init 29 = .ok (.bipush 6, 2) := by decide +kernel
theorem dX3_init_31 : decode cX3_init 31 = .ok (.newarray .int, 2) := by decide +kernel
theorem dX3_init_33 : decode cX3_init 33 = .ok (.putfield 21, 3) := by decide +kernel
theorem dX3_init_36 : decode cX3_init 36 = .ok (.aload_n 0, 1) := by decide +kernel
theorem dX3_init_37 : decode cX3_init 37 = .ok (.bipush 6, 2) := by decide +kernel
theorem dX3_init_39 : decode cX3_init 39 = .ok (.newarray .int, 2) := by decide +kernel
theorem dX3_init_41 : decode cX3_init 41 = .ok (.putfield 24, 3) := by decide +kernel
theorem dX3_init_44 : decode cX3_init 44 = .ok (.aload_n 0, 1) := by decide +kernel
theorem dX3_init_45 : decode cX3_init 45 = .ok (.bipush 6, 2) := by decide +kernel
theorem dX3_init_47 : decode cX3_init 47 = .ok (.newarray .int, 2) := by decide +kernel
theorem dX3_init_49 : decode cX3_init 49 = .ok (.putfield 27, 3) := by decide +kernel
theorem dX3_init_52 : decode cX3_init 52 = .ok (.aload_n 0, 1) := by decide +kernel
theorem dX3_init_53 : decode cX3_init 53 = .ok (.iconst 5, 1) := by decide +kernel
theorem dX3_init_54 : decode cX3_init 54 = .ok (.newarray .int, 2) := by decide +kernel
theorem dX3_init_56 : decode cX3_init 56 = .ok (.putfield 30, 3) := by decide +kernel
theorem dX3_init_59 : decode cX3_init 59 = .ok (.aload_n 0, 1) := by decide +kernel
theorem dX3_init_60 : decode cX3_init 60 = .ok (.bipush 6, 2) := by decide +kernel
theorem dX3_init_62 : decode cX3_init 62 = .ok (.newarray .int, 2) := by decide +kernel
theorem dX3_init_64 : decode cX3_init 64 = .ok (.dup, 1) := by decide +kernel
theorem dX3_init_65 : decode cX3_init 65 = .ok (.iconst 0, 1) := by decide +kernel
theorem dX3_init_66 : decode cX3_init 66 = .ok (.bipush 6, 2) := by decide +kernel
theorem dX3_init_68 : decode cX3_init 68 = .ok (.iastore, 1) := by decide +kernel
theorem dX3_init_69 : decode cX3_init 69 = .ok (.dup, 1) := by decide +kernel
theorem dX3_init_70 : decode cX3_init 70 = .ok (.iconst 1, 1) := by decide +kernel
theorem dX3_init_71 : decode cX3_init 71 = .ok (.iconst 3, 1) := by decide +kernel
theorem dX3_init_72 : decode cX3_init 72 = .ok (.iastore, 1) := by decide +kernel
theorem dX3_init_73 : decode cX3_init 73 = .ok (.dup, 1) := by decide +kernel
theorem dX3_init_74 : decode cX3_init 74 = .ok (.iconst 2, 1) := by decide +kernel
theorem dX3_init_75 : decode cX3_init 75 = .ok (.bipush 8, 2) := by decide +kernel
theorem dX3_init_77 : decode cX3_init 77 = .ok (.iastore, 1) := by decide +kernel
theorem dX3_init_78 : decode cX3_init 78 = .ok (.dup, 1) := by decide +kernel
theorem dX3_init_79 : decode cX3_init 79 = .ok (.iconst 3, 1) := by decide +kernel
theorem dX3_init_80 : decode cX3_init 80 = .ok (.bipush 11, 2) := by decide +kernel
theorem dX3_init_82 : decode cX3_init 82 = .ok (.iastore, 1) := by decide +kernel
theorem dX3_init_83 : decode cX3_init 83 = .ok (.dup, 1) := by decide +kernel
theorem dX3_init_84 : decode cX3_init 84 = .ok (.iconst 4, 1) := by decide +kernel
theorem dX3_init_85 : decode cX3_init 85 = .ok (.iconst 0, 1) := by decide +kernel
theorem dX3_init_86 : decode cX3_init 86 = .ok (.iastore, 1) := by decide +kernel
theorem dX3_init_87 : decode cX3_init 87 = .ok (.dup, 1) := by decide +kernel
theorem dX3_init_88 : decode cX3_init 88 = .ok (.iconst 5, 1) := by decide +kernel
theorem dX3_init_89 : decode cX3_init 89 = .ok (.iconst 0, 1) := by decide +kernel
theorem dX3_init_90 : decode cX3_init 90 = .ok (.iastore, 1) := by decide +kernel
theorem dX3_init_91 : decode cX3_init 91 = .ok (.putfield 33, 3) := by decide +kernel
theorem dX3_init_94 : decode cX3_init 94 = .ok (.return_, 1) := by decide +kernel
theorem dX3_takeOver_0 : decode cX3_takeOver 0 = .ok (.aload_n 0, 1) := by decide +kernel
theorem dX3_takeOver_1 : decode cX3_takeOver 1 = .ok (.aload_n 1, 1) := by decide +kernel
theorem dX3_takeOver_2 : decode cX3_takeOver 2 = .ok (.getfield 36, 3) := by decide +kernel
theorem dX3_takeOver_5 : decode cX3_takeOver 5 = .ok (.putfield 36, 3) := by decide +kernel
theorem dX3_takeOver_8 : decode cX3_takeOver 8 = .ok (.aload_n 1, 1) := by decide +kernel
theorem dX3_takeOver_9 : decode cX3_takeOver 9 = .ok (.getfield 9, 3) := by decide +kernel
theorem dX3_takeOver_12 : decode cX3_takeOver 12 = .ok (.iconst 0, 1) := by decide +kernel
theorem dX3_takeOver_13 : decode cX3_takeOver 13 = .ok (.aload_n 0, 1) := by decide +kernel
theorem dX3_takeOver_14 : decode cX3_takeOver 14 = .ok (.getfield 9, 3) := by decide +kernel
theorem dX3_takeOver_17 : decode cX3_takeOver 17 = .ok (.iconst 0, 1) := by decide +kernel
theorem dX3_takeOver_18 : decode cX3_takeOver 18 = .ok (.bipush 6, 2) := by decide +kernel
theorem dX3_takeOver_20 : decode cX3_takeOver 20 = .ok (.invokestatic 40, 3) := by decide +kernel
theorem dX3_takeOver_23 : decode cX3_takeOver 23 = .ok (.aload_n 1, 1) := by decide +kernel
theorem dX3_takeOver_24 : decode cX3_takeOver 24 = .ok (.getfield 15, 3) := by decide +kernel
theorem dX3_takeOver_27 : decode cX3_takeOver 27 = .ok (.iconst 0, 1) := by decide +kernel
theorem dX3_takeOver_28 : decode cX3_takeOver 28 = .ok (.aload_n 0, 1) := by decide +kernel
theorem dX3_takeOver_29 : decode cX3_takeOver 29 = .ok (.getfield 15, 3) := by decide +kernel
theorem dX3_takeOver_32 : decode cX3_takeOver 32 = .ok (.iconst 0, 1) := by decide +kernel
theorem dX3_takeOver_33 : decode cX3_takeOver 33 = .ok (.bipush 6, 2) := by decide +kernel
theorem dX3_takeOver_35 : decode cX3_takeOver 35 = .ok (.invokestatic 40, 3) := by decide +kernel
theorem dX3_takeOver_38 : decode cX3_takeOver 38 = .ok (.aload_n 1, 1) := by decide +kernel
theorem dX3_takeOver_39 : decode cX3_takeOver 39 = .ok (.getfield 18, 3) := by decide +kernel
theorem dX3_takeOver_42 : decode cX3_takeOver 42 = .ok (.iconst 0, 1) := by decide +kernel
theorem dX3_takeOver_43 : decode cX3_takeOver 43 = .ok (.aload_n 0, 1) := by decide +kernel
theorem dX3_takeOver_44 : decode cX3_takeOver 44 = .ok (.getfield 18, 3) := by decide +kernel
theorem dX3_takeOver_47 : decode cX3_takeOver 47 = .ok (.iconst 0, 1) := by decide +kernel
theorem dX3_takeOver_48 : decode cX3_takeOver 48 = .ok (.bipush 6, 2) := by decide +kernel
theorem dX3_takeOver_50 : decode cX3_takeOver 50 = .ok (.invokestatic 40, 3) := by decide +kernel
theorem dX3_takeOver_53 : decode cX3_takeOver 53 = .ok (.aload_n 1, 1) := by decide +kernel
theorem dX3_takeOver_54 : decode cX3_takeOver 54 = .ok (.getfield 21, 3) := by decide +kernel
theorem dX3_takeOver_57 : decode cX3_takeOver 57 = .ok (.iconst 0, 1) := by decide +kernel
theorem dX3_takeOver_58 : decode cX3_takeOver 58 = .ok (.aload_n 0, 1) := by decide +kernel
theorem dX3_takeOver_59 : decode cX3_takeOver 59 = .ok (.getfield 21, 3) := by decide +kernel
theorem dX3_takeOver_62 : decode cX3_takeOver 62 = .ok (.iconst 0, 1) := by decide +kernel
theorem dX3_takeOver_63 : decode cX3_takeOver 63 = .ok (.bipush 6, 2) := by decide +kernel
theorem dX3_takeOver_65 : decode cX3_takeOver 65 = .ok (.invokestatic 40, 3) := by decide +kernel
theorem dX3_takeOver_68 : decode cX3_takeOver 68 = .ok (.aload_n 1, 1) := by decide +kernel
theorem dX3_takeOver_69 : decode cX3_takeOver 69 = .ok (.getfield 24, 3) := by decide +kernel
theorem dX3_takeOver_72 : decode cX3_takeOver 72 = .ok (.iconst 0, 1) := by decide +kernel
theorem dX3_takeOver_73 : decode cX3_takeOver 73 = .ok (.aload_n 0, 1) := by decide +kernel
theorem dX3_takeOver_74 : decode cX3_takeOver 74 = .ok (.getfield 24, 3) := by decide +kernel
theorem dX3_takeOver_77 : decode cX3_takeOver 77 = .ok (.iconst 0, 1) := by decide +kernel
theorem dX3_takeOver_78 : decode cX3_takeOver 78 = .ok (.bipush 6, 2) := by decide +kernel
theorem dX3_takeOver_80 : decode cX3_takeOver 80 = .ok (.invokestatic 40, 3) := by decide +kernel
theorem dX3_takeOver_83 : decode cX3_takeOver 83 = .ok (.aload_n 1, 1) := by decide +kernel
theorem dX3_takeOver_84 : decode cX3_takeOver 84 = .ok (.getfield 27, 3) := by decide +kernel
theorem dX3_takeOver_87 : decode cX3_takeOver 87 = .ok (.iconst 0, 1) := by decide +kernel
theorem dX3_takeOver_88 : decode cX3_takeOver 88 = .ok (.aload_n 0, 1) := by decide +kernel
theorem dX3_takeOver_89 : decode cX3_takeOver 89 = .ok (.getfield 27, 3) := by decide +kernel
theorem dX3_takeOver_92 : decode cX3_takeOver 92 = .ok (.iconst 0, 1) := by decide +kernel
theorem dX3_takeOver_93 : decode cX3_takeOver 93 = .ok (.bipush 6, 2) := by decide +kernel
theorem dX3_takeOver_95 : decode cX3_takeOver 95 = .ok (.invokestatic 40, 3) := by decide +kernel
theorem dX3_takeOver_98 : decode cX3_takeOver 98 = .ok (.aload_n 1, 1) := by decide +kernel
theorem dX3_takeOver_99 : decode cX3_takeOver 99 = .ok (.getfield 30, 3) := by decide +kernel
theorem dX3_takeOver_102 : decode cX3_takeOver 102 = .ok (.iconst 0, 1) := by decide +kernel
theorem dX3_takeOver_103 : decode cX3_takeOver 103 = .ok (.aload_n 0, 1) := by decide +kernel
theorem dX3_takeOver_104 : decode cX3_takeOver 104 = .ok (.getfield 30, 3) := by decide +kernel
theorem dX3_takeOver_107 : decode cX3_takeOver 107 = .ok (.iconst 0, 1) := by decide +kernel
theorem dX3_takeOver_108 : decode cX3_takeOver 108 = .ok (.iconst 5, 1) := by decide +kernel
theorem dX3_takeOver_109 : decode cX3_takeOver 109 = .ok (.invokestatic 40, 3) := by decide +kernel
theorem dX3_takeOver_112 : decode cX3_takeOver 112 = .ok (.aload_n 1, 1) := by decide +kernel
theorem dX3_takeOver_113 : decode cX3_takeOver 113 = .ok (.getfield 33, 3) := by decide +kernel
theorem dX3_takeOver_116 : decode cX3_takeOver 116 = .ok (.iconst 0, 1) := by decide +kernel
theorem dX3_takeOver_117 : decode cX3_takeOver 117 = .ok (.aload_n 0, 1) := by decide +kernel
theorem dX3_takeOver_118 : decode cX3_takeOver 118 = .ok (.getfield 33, 3) := by decide +kernel
theorem dX3_takeOver_121 : decode cX3_takeOver 121 = .ok (.iconst 0, 1) := by decide +kernel
theorem dX3_takeOver_122 : decode cX3_takeOver 122 = .ok (.aload_n 0, 1) := by decide +kernel
theorem dX3_takeOver_123 : decode cX3_takeOver 123 = .ok (.getfield 33, 3) := by decide +kernel
theorem dX3_takeOver_126 : decode cX3_takeOver 126 = .ok (.arraylength, 1) := by decide +kernel
theorem dX3_takeOver_127 : decode cX3_takeOver 127 = .ok (.invokestatic 40, 3) := by decide +kernel
theorem dX3_takeOver_130 : decode cX3_takeOver 130 = .ok (.return_, 1) := by decide +kernel
theorem dX3_hasDish_0 : decode cX3_hasDish 0 = .ok (.iload_n 1, 1) := by decide +kernel
theorem dX3_hasDish_1 : decode cX3_hasDish 1 = .ok (.ifCond .lt 15, 3) := by decide +kernel
theorem dX3_hasDish_4 : decode cX3_hasDish 4 = .ok (.iload_n 1, 1) := by decide +kernel
theorem dX3_hasDish_5 : decode cX3_hasDish 5 = .ok (.aload_n 0, 1) := by decide +kernel
theorem dX3_hasDish_6 : decode cX3_hasDish 6 = .ok (.getfield 36, 3) := by decide +kernel
theorem dX3_hasDish_9 : decode cX3_hasDish 9 = .ok (.if_icmp .ge 7, 3) := by decide +kernel
theorem dX3_hasDish_12 : decode cX3_hasDish 12 = .ok (.iconst 1, 1) := by decide +kernel
theorem dX3_hasDish_13 : decode cX3_hasDish 13 = .ok (.goto 4, 3) := by decide +kernel
theorem dX3_hasDish_16 : decode cX3_hasDish 16 = .ok (.iconst 0, 1) := by decide +kernel
theorem dX3_hasDish_17 : decode cX3_hasDish 17 = .ok (.ireturn, 1) := by decide +kernel
theorem dX3_whereIs_0 : decode cX3_whereIs 0 = .ok (.iconst 0, 1) := by decide +kernel
theorem dX3_whereIs_1 : decode cX3_whereIs 1 = .ok (.istore_n 2, 1) := by decide +kernel
theorem dX3_whereIs_2 : decode cX3_whereIs 2 = .ok (.iload_n 2, 1) := by decide +kernel
theorem dX3_whereIs_3 : decode cX3_whereIs 3 = .ok (.aload_n 0, 1) := by decide +kernel
theorem dX3_whereIs_4 : decode cX3_whereIs 4 = .ok (.getfield 36, 3) := by decide +kernel
theorem dX3_whereIs_7 : decode cX3_whereIs 7 = .ok (.if_icmp .ge 21, 3) := by decide +kernel
theorem dX3_whereIs_10 : decode cX3_whereIs 10 = .ok (.aload_n 0, 1) := by decide +kernel
theorem dX3_whereIs_11 : decode cX3_whereIs 11 = .ok (.getfield 27, 3) := by decide +kernel
theorem dX3_whereIs_14 : decode cX3_whereIs 14 = .ok (.iload_n 2, 1) := by decide +kernel
theorem dX3_whereIs_15 : decode cX3_whereIs 15 = .ok (.iaload, 1) := by decide +kernel
theorem dX3_whereIs_16 : decode cX3_whereIs 16 = .ok (.iload_n 1, 1) := by decide +kernel
theorem dX3_whereIs_17 : decode cX3_whereIs 17 = .ok (.if_icmp .ne 5, 3) := by decide +kernel
theorem dX3_whereIs_20 : decode cX3_whereIs 20 = .ok (.iload_n 2, 1) := by decide +kernel
theorem dX3_whereIs_21 : decode cX3_whereIs 21 = .ok (.ireturn, 1) := by decide +kernel
theorem dX3_whereIs_22 : decode cX3_whereIs 22 = .ok (.iinc 2 1, 3) := by decide +kernel
theorem dX3_whereIs_25 : decode cX3_whereIs 25 = .ok (.goto (-23), 3) := by decide +kernel
theorem dX3_whereIs_28 : decode cX3_whereIs 28 = .ok (.iconst (-1), 1) := by decide +kernel
theorem dX3_whereIs_29 : decode cX3_whereIs 29 = .ok (.ireturn, 1) := by decide +kernel
theorem dX3_swap_0 : decode cX3_swap 0 = .ok (.iload_n 1, 1) := by decide +kernel
theorem dX3_swap_1 : decode cX3_swap 1 = .ok (.iload_n 2, 1) := by decide +kernel
theorem dX3_swap_2 : decode cX3_swap 2 = .ok (.if_icmp .eq 19, 3) := by decide +kernel
theorem dX3_swap_5 : decode cX3_swap 5 = .ok (.aload_n 0, 1) := by decide +kernel
theorem dX3_swap_6 : decode cX3_swap 6 = .ok (.iload_n 1, 1) := by decide +kernel
theorem dX3_swap_7 : decode cX3_swap 7 = .ok (.invokevirtual 46, 3) := by decide +kernel
theorem dX3_swap_10 : decode cX3_swap 10 = .ok (.ifCond .eq 11, 3) := by decide +kernel
theorem dX3_swap_13 : decode cX3_swap 13 = .ok (.aload_n 0, 1) := by decide +kernel
theorem dX3_swap_14 : decode cX3_swap 14 = .ok (.iload_n 2, 1) := by decide +kernel
theorem dX3_swap_15 : decode cX3_swap 15 = .ok (.invokevirtual 46, 3) := by decide +kernel
theorem dX3_swap_18 : decode cX3_swap 18 = .ok (.ifCond .ne 5, 3) := by decide +kernel
theorem dX3_swap_21 : decode cX3_swap 21 = .ok (.iconst 0, 1) := by decide +kernel
theorem dX3_swap_22 : decode cX3_swap 22 = .ok (.ireturn, 1) := by decide +kernel
theorem dX3_swap_23 : decode cX3_swap 23 = .ok (.iconst 0, 1) := by decide +kernel
theorem dX3_swap_24 : decode cX3_swap 24 = .ok (.istore_n 3, 1) := by decide +kernel
theorem dX3_swap_25 : decode cX3_swap 25 = .ok (.iload_n 3, 1) := by decide +kernel
theorem dX3_swap_26 : decode cX3_swap 26 = .ok (.aload_n 0, 1) := by decide +kernel
theorem dX3_swap_27 : decode cX3_swap 27 = .ok (.getfield 36, 3) := by decide +kernel
theorem dX3_swap_30 : decode cX3_swap 30 = .ok (.if_icmp .ge 46, 3) := by decide +kernel
theorem dX3_swap_33 : decode cX3_swap 33 = .ok (.aload_n 0, 1) := by decide +kernel
theorem dX3_swap_34 : decode cX3_swap 34 = .ok (.getfield 27, 3) := by decide +kernel
theorem dX3_swap_37 : decode cX3_swap 37 = .ok (.iload_n 3, 1) := by decide +kernel
theorem dX3_swap_38 : decode cX3_swap 38 = .ok (.iaload, 1) := by decide +kernel
theorem dX3_swap_39 : decode cX3_swap 39 = .ok (.iload_n 1, 1) := by decide +kernel
theorem dX3_swap_40 : decode cX3_swap 40 = .ok (.if_icmp .ne 13, 3) := by decide +kernel
theorem dX3_swap_43 : decode cX3_swap 43 = .ok (.aload_n 0, 1) := by decide +kernel
theorem dX3_swap_44 : decode cX3_swap 44 = .ok (.getfield 27, 3) := by decide +kernel
theorem dX3_swap_47 : decode cX3_swap 47 = .ok (.iload_n 3, 1) := by decide +kernel
theorem dX3_swap_48 : decode cX3_swap 48 = .ok (.iload_n 2, 1) := by decide +kernel
theorem dX3_swap_49 : decode cX3_swap 49 = .ok (.iastore, 1) := by decide +kernel
theorem dX3_swap_50 : decode cX3_swap 50 = .ok (.goto 20, 3) := by decide +kernel
theorem dX3_swap_53 : decode cX3_swap 53 = .ok (.aload_n 0, 1) := by decide +kernel
theorem dX3_swap_54 : decode cX3_swap 54 = .ok (.getfield 27, 3) := by decide +kernel
theorem dX3_swap_57 : decode cX3_swap 57 = .ok (.iload_n 3, 1) := by decide +kernel
theorem dX3_swap_58 : decode cX3_swap 58 = .ok (.iaload, 1) := by decide +kernel
theorem dX3_swap_59 : decode cX3_swap 59 = .ok (.iload_n 2, 1) := by decide +kernel
theorem dX3_swap_60 : decode cX3_swap 60 = .ok (.if_icmp .ne 10, 3) := by decide +kernel
theorem dX3_swap_63 : decode cX3_swap 63 = .ok (.aload_n 0, 1) := by decide +kernel
theorem dX3_swap_64 : decode cX3_swap 64 = .ok (.getfield 27, 3) := by decide +kernel
theorem dX3_swap_67 : decode cX3_swap 67 = .ok (.iload_n 3, 1) := by decide +kernel
theorem dX3_swap_68 : decode cX3_swap 68 = .ok (.iload_n 1, 1) := by decide +kernel
theorem dX3_swap_69 : decode cX3_swap 69 = .ok (.iastore, 1) := by decide +kernel
theorem dX3_swap_70 : decode cX3_swap 70 = .ok (.iinc 3 1, 3) := by decide +kernel
theorem dX3_swap_73 : decode cX3_swap 73 = .ok (.goto (-48), 3) := by decide +kernel
theorem dX3_swap_76 : decode cX3_swap 76 = .ok (.iconst 1, 1) := by decide +kernel
theorem dX3_swap_77 : decode cX3_swap 77 = .ok (.ireturn, 1) := by decide +kernel
theorem dX3_addDish_0 : decode cX3_addDish 0 = .ok (.aload_n 0, 1) := by decide +kernel
theorem dX3_addDish_1 : decode cX3_addDish 1 = .ok (.getfield 36, 3) := by decide +kernel
theorem dX3_addDish_4 : decode cX3_addDish 4 = .ok (.bipush 6, 2) := by decide +kernel
theorem dX3_addDish_6 : decode cX3_addDish 6 = .ok (.if_icmp .ge 7, 3) := by decide +kernel
theorem dX3_addDish_9 : decode cX3_addDish 9 = .ok (.iload_n 1, 1) := by decide +kernel
theorem dX3_addDish_10 : decode cX3_addDish 10 = .ok (.ifCond .ge 5, 3) := by decide +kernel
theorem dX3_addDish_13 : decode cX3_addDish 13 = .ok (.iconst 0, 1) := by decide +kernel
theorem dX3_addDish_14 : decode cX3_addDish 14 = .ok (.ireturn, 1) := by decide +kernel
theorem dX3_addDish_15 : decode cX3_addDish 15 = .ok (.iload_n 2, 1) := by decide +kernel
theorem dX3_addDish_16 : decode cX3_addDish 16 = .ok (.iconst 1, 1) := by decide +kernel
theorem dX3_addDish_17 : decode cX3_addDish 17 = .ok (.if_icmp .lt 24, 3) := by decide +kernel
theorem dX3_addDish_20 : decode cX3_addDish 20 = .ok (.iload 4, 2) := by decide +kernel
theorem dX3_addDish_22 : decode cX3_addDish 22 = .ok (.iconst 1, 1) := by decide +kernel
theorem dX3_addDish_23 : decode cX3_addDish 23 = .ok (.if_icmp .lt 18, 3) := by decide +kernel
theorem dX3_addDish_26 : decode cX3_addDish 26 = .ok (.iload 4, 2) := by decide +kernel
theorem dX3_addDish_28 : decode cX3_addDish 28 = .ok (.bipush 6, 2) := by decide +kernel
theorem dX3_addDish_30 : decode cX3_addDish 30 = .ok (.if_icmp .gt 11, 3) := by decide +kernel
theorem dX3_addDish_33 : decode cX3_addDish 33 = .ok (.iload 5, 2) := by decide +kernel
theorem dX3_addDish_35 : decode cX3_addDish 35 = .ok (.invokestatic 50, 3) := by decide +kernel
theorem dX3_addDish_38 : decode cX3_addDish 38 = .ok (.ifCond .ne 5, 3) := by decide +kernel
theorem dX3_addDish_41 : decode cX3_addDish 41 = .ok (.iconst 0, 1) := by decide +kernel
theorem dX3_addDish_42 : decode cX3_addDish 42 = .ok (.ireturn, 1) := by decide +kernel
theorem dX3_addDish_43 : decode cX3_addDish 43 = .ok (.aload_n 0, 1) := by decide +kernel
theorem dX3_addDish_44 : decode cX3_addDish 44 = .ok (.getfield 9, 3) := by decide +kernel
theorem dX3_addDish_47 : decode cX3_addDish 47 = .ok (.aload_n 0, 1) := by decide +kernel
theorem dX3_addDish_48 : decode cX3_addDish 48 = .ok (.getfield 36, 3) := by decide +kernel
theorem dX3_addDish_51 : decode cX3_addDish 51 = .ok (.iload_n 1, 1) := by decide +kernel
theorem dX3_addDish_52 : decode cX3_addDish 52 = .ok (.iastore, 1) := by decide +kernel
theorem dX3_addDish_53 : decode cX3_addDish 53 = .ok (.aload_n 0, 1) := by decide +kernel
theorem dX3_addDish_54 : decode cX3_addDish 54 = .ok (.getfield 15, 3) := by decide +kernel
theorem dX3_addDish_57 : decode cX3_addDish 57 = .ok (.aload_n 0, 1) := by decide +kernel
theorem dX3_addDish_58 : decode cX3_addDish 58 = .ok (.getfield 36, 3) := by decide +kernel
theorem dX3_addDish_61 : decode cX3_addDish 61 = .ok (.iload_n 2, 1) := by decide +kernel
theorem dX3_addDish_62 : decode cX3_addDish 62 = .ok (.iastore, 1) := by decide +kernel
theorem dX3_addDish_63 : decode cX3_addDish 63 = .ok (.aload_n 0, 1) := by decide +kernel
theorem dX3_addDish_64 : decode cX3_addDish 64 = .ok (.getfield 18, 3) := by decide +kernel
theorem dX3_addDish_67 : decode cX3_addDish 67 = .ok (.aload_n 0, 1) := by decide +kernel
theorem dX3_addDish_68 : decode cX3_addDish 68 = .ok (.getfield 36, 3) := by decide +kernel
theorem dX3_addDish_71 : decode cX3_addDish 71 = .ok (.iload_n 3, 1) := by decide +kernel
theorem dX3_addDish_72 : decode cX3_addDish 72 = .ok (.iastore, 1) := by decide +kernel
theorem dX3_addDish_73 : decode cX3_addDish 73 = .ok (.aload_n 0, 1) := by decide +kernel
theorem dX3_addDish_74 : decode cX3_addDish 74 = .ok (.getfield 21, 3) := by decide +kernel
theorem dX3_addDish_77 : decode cX3_addDish 77 = .ok (.aload_n 0, 1) := by decide +kernel
theorem dX3_addDish_78 : decode cX3_addDish 78 = .ok (.getfield 36, 3) := by decide +kernel
theorem dX3_addDish_81 : decode cX3_addDish 81 = .ok (.iload 4, 2) := by decide +kernel
theorem dX3_addDish_83 : decode cX3_addDish 83 = .ok (.iastore, 1) := by decide +kernel
theorem dX3_addDish_84 : decode cX3_addDish 84 = .ok (.aload_n 0, 1) := by decide +kernel
theorem dX3_addDish_85 : decode cX3_addDish 85 = .ok (.getfield 24, 3) := by decide +kernel
theorem dX3_addDish_88 : decode cX3_addDish 88 = .ok (.aload_n 0, 1) := by decide +kernel
theorem dX3_addDish_89 : decode cX3_addDish 89 = .ok (.getfield 36, 3) := by decide +kernel
theorem dX3_addDish_92 : decode cX3_addDish 92 = .ok (.iload 5, 2) := by decide +kernel
theorem dX3_addDish_94 : decode cX3_addDish 94 = .ok (.iastore, 1) := by decide +kernel
theorem dX3_addDish_95 : decode cX3_addDish 95 = .ok (.aload_n 0, 1) := by decide +kernel
theorem dX3_addDish_96 : decode cX3_addDish 96 = .ok (.getfield 27, 3) := by decide +kernel
theorem dX3_addDish_99 : decode cX3_addDish 99 = .ok (.aload_n 0, 1) := by decide +kernel
theorem dX3_addDish_100 : decode cX3_addDish 100 = .ok (.getfield 36, 3) := by decide +kernel
theorem dX3_addDish_103 : decode cX3_addDish 103 = .ok (.aload_n 0, 1) := by decide +kernel
theorem dX3_addDish_104 : decode cX3_addDish 104 = .ok (.getfield 36, 3) := by decide +kernel
theorem dX3_addDish_107 : decode cX3_addDish 107 = .ok (.iastore, 1) := by decide +kernel
theorem dX3_addDish_108 : decode cX3_addDish 108 = .ok (.aload_n 0, 1) := by decide +kernel
theorem dX3_addDish_109 : decode cX3_addDish 109 = .ok (.dup, 1) := by decide +kernel
theorem dX3_addDish_110 : decode cX3_addDish 110 = .ok (.getfield 36, 3) := by decide +kernel
theorem dX3_addDish_113 : decode cX3_addDish 113 = .ok (.iconst 1, 1) := by decide +kernel
theorem dX3_addDish_114 : decode cX3_addDish 114 = .ok (.iadd, 1) := by decide +kernel
theorem dX3_addDish_115 : decode cX3_addDish 115 = .ok (.putfield 36, 3) := by decide +kernel
theorem dX3_addDish_118 : decode cX3_addDish 118 = .ok (.iconst 1, 1) := by decide +kernel
theorem dX3_addDish_119 : decode cX3_addDish 119 = .ok (.ireturn, 1) := by decide +kernel
theorem dX3_putInBox_0 : decode cX3_putInBox 0 = .ok (.iload_n 2, 1) := by decide +kernel
theorem dX3_putInBox_1 : decode cX3_putInBox 1 = .ok (.getstatic 53, 3) := by decide +kernel
theorem dX3_putInBox_4 : decode cX3_putInBox 4 = .ok (.iload_n 1, 1) := by decide +kernel
theorem dX3_putInBox_5 : decode cX3_putInBox 5 = .ok (.iaload, 1) := by decide +kernel
theorem dX3_putInBox_6 : decode cX3_putInBox 6 = .ok (.if_icmp .lt 12, 3) := by decide +kernel
theorem dX3_putInBox_9 : decode cX3_putInBox 9 = .ok (.iload_n 2, 1) := by decide +kernel
theorem dX3_putInBox_10 : decode cX3_putInBox 10 = .ok (.getstatic 56, 3) := by decide +kernel
theorem dX3_putInBox_13 : decode cX3_putInBox 13 = .ok (.iload_n 1, 1) := by decide +kernel
theorem dX3_putInBox_14 : decode cX3_putInBox 14 = .ok (.iaload, 1) := by decide +kernel
theorem dX3_putInBox_15 : decode cX3_putInBox 15 = .ok (.if_icmp .le 5, 3) := by decide +kernel
theorem dX3_putInBox_18 : decode cX3_putInBox 18 = .ok (.iconst 0, 1) := by decide +kernel
theorem dX3_putInBox_19 : decode cX3_putInBox 19 = .ok (.ireturn, 1) := by decide +kernel
theorem dX3_putInBox_20 : decode cX3_putInBox 20 = .ok (.aload_n 0, 1) := by decide +kernel
theorem dX3_putInBox_21 : decode cX3_putInBox 21 = .ok (.getfield 33, 3) := by decide +kernel
theorem dX3_putInBox_24 : decode cX3_putInBox 24 = .ok (.iload_n 1, 1) := by decide +kernel
theorem dX3_putInBox_25 : decode cX3_putInBox 25 = .ok (.iload_n 2, 1) := by decide +kernel
theorem dX3_putInBox_26 : decode cX3_putInBox 26 = .ok (.iastore, 1) := by decide +kernel
theorem dX3_putInBox_27 : decode cX3_putInBox 27 = .ok (.iconst 1, 1) := by decide +kernel
theorem dX3_putInBox_28 : decode cX3_putInBox 28 = .ok (.ireturn, 1) := by decide +kernel
theorem dX3_putBegin_0 : decode cX3_putBegin 0 = .ok (.iload_n 1, 1) := by decide +kernel
theorem dX3_putBegin_1 : decode cX3_putBegin 1 = .ok (.invokestatic 50, 3) := by decide +kernel
theorem dX3_putBegin_4 : decode cX3_putBegin 4 = .ok (.ifCond .ne 5, 3) := by decide +kernel
theorem dX3_putBegin_7 : decode cX3_putBegin 7 = .ok (.iconst 0, 1) := by decide +kernel
theorem dX3_putBegin_8 : decode cX3_putBegin 8 = .ok (.ireturn, 1) := by decide +kernel
theorem dX3_putBegin_9 : decode cX3_putBegin 9 = .ok (.aload_n 0, 1) := by decide +kernel
theorem dX3_putBegin_10 : decode cX3_putBegin 10 = .ok (.getfield 30, 3) := by decide +kernel
theorem dX3_putBegin_13 : decode cX3_putBegin 13 = .ok (.iload_n 1, 1) := by decide +kernel
theorem dX3_putBegin_14 : decode cX3_putBegin 14 = .ok (.iload_n 2, 1) := by decide +kernel
theorem dX3_putBegin_15 : decode cX3_putBegin 15 = .ok (.iastore, 1) := by decide +kernel
theorem dX3_putBegin_16 : decode cX3_putBegin 16 = .ok (.iconst 1, 1) := by decide +kernel
theorem dX3_putBegin_17 : decode cX3_putBegin 17 = .ok (.ireturn, 1) := by decide +kernel
theorem dX3_beginOf_0 : decode cX3_beginOf 0 = .ok (.bipush 100, 2) := by decide +kernel
theorem dX3_beginOf_2 : decode cX3_beginOf 2 = .ok (.iload_n 1, 1) := by decide +kernel
theorem dX3_beginOf_3 : decode cX3_beginOf 3 = .ok (.imul, 1) := by decide +kernel
theorem dX3_beginOf_4 : decode cX3_beginOf 4 = .ok (.aload_n 0, 1) := by decide +kernel
theorem dX3_beginOf_5 : decode cX3_beginOf 5 = .ok (.getfield 30, 3) := by decide +kernel
theorem dX3_beginOf_8 : decode cX3_beginOf 8 = .ok (.iload_n 1, 1) := by decide +kernel
theorem dX3_beginOf_9 : decode cX3_beginOf 9 = .ok (.iaload, 1) := by decide +kernel
theorem dX3_beginOf_10 : decode cX3_beginOf 10 = .ok (.iadd, 1) := by decide +kernel
theorem dX3_beginOf_11 : decode cX3_beginOf 11 = .ok (.ireturn, 1) := by decide +kernel
theorem dX3_secondsWith_0 : decode cX3_secondsWith 0 = .ok (.iload_n 1, 1) := by decide +kernel
theorem dX3_secondsWith_1 : decode cX3_secondsWith 1 = .ok (.aload_n 0, 1) := by decide +kernel
theorem dX3_secondsWith_2 : decode cX3_secondsWith 2 = .ok (.getfield 33, 3) := by decide +kernel
theorem dX3_secondsWith_5 : decode cX3_secondsWith 5 = .ok (.iconst 2, 1) := by decide +kernel
theorem dX3_secondsWith_6 : decode cX3_secondsWith 6 = .ok (.iaload, 1) := by decide +kernel
theorem dX3_secondsWith_7 : decode cX3_secondsWith 7 = .ok (.isub, 1) := by decide +kernel
theorem dX3_secondsWith_8 : decode cX3_secondsWith 8 = .ok (.invokestatic 59, 3) := by decide +kernel
theorem dX3_secondsWith_11 : decode cX3_secondsWith 11 = .ok (.istore_n 2, 1) := by decide +kernel
theorem dX3_secondsWith_12 : decode cX3_secondsWith 12 = .ok (.aload_n 0, 1) := by decide +kernel
theorem dX3_secondsWith_13 : decode cX3_secondsWith 13 = .ok (.getfield 33, 3) := by decide +kernel
theorem dX3_secondsWith_16 : decode cX3_secondsWith 16 = .ok (.iconst 3, 1) := by decide +kernel
theorem dX3_secondsWith_17 : decode cX3_secondsWith 17 = .ok (.iaload, 1) := by decide +kernel
theorem dX3_secondsWith_18 : decode cX3_secondsWith 18 = .ok (.iconst 1, 1) := by decide +kernel
theorem dX3_secondsWith_19 : decode cX3_secondsWith 19 = .ok (.iconst 1, 1) := by decide +kernel
theorem dX3_secondsWith_20 : decode cX3_secondsWith 20 = .ok (.iload_n 2, 1) := by decide +kernel
theorem dX3_secondsWith_21 : decode cX3_secondsWith 21 = .ok (.iconst 4, 1) := by decide +kernel
theorem dX3_secondsWith_22 : decode cX3_secondsWith 22 = .ok (.idiv, 1) := by decide +kernel
theorem dX3_secondsWith_23 : decode cX3_secondsWith 23 = .ok (.iadd, 1) := by decide +kernel
theorem dX3_secondsWith_24 : decode cX3_secondsWith 24 = .ok (.aload_n 0, 1) := by decide +kernel
theorem dX3_secondsWith_25 : decode cX3_secondsWith 25 = .ok (.getfield 33, 3) := by decide +kernel
theorem dX3_secondsWith_28 : decode cX3_secondsWith 28 = .ok (.iconst 4, 1) := by decide +kernel
theorem dX3_secondsWith_29 : decode cX3_secondsWith 29 = .ok (.iaload, 1) := by decide +kernel
theorem dX3_secondsWith_30 : decode cX3_secondsWith 30 = .ok (.isub, 1) := by decide +kernel
theorem dX3_secondsWith_31 : decode cX3_secondsWith 31 = .ok (.invokestatic 65, 3) := by decide +kernel
theorem dX3_secondsWith_34 : decode cX3_secondsWith 34 = .ok (.imul, 1) := by decide +kernel
theorem dX3_secondsWith_35 : decode cX3_secondsWith 35 = .ok (.ireturn, 1) := by decide +kernel
theorem dX3_sumOf_0 : decode cX3_sumOf 0 = .ok (.iconst 0, 1) := by decide +kernel
theorem dX3_sumOf_1 : decode cX3_sumOf 1 = .ok (.istore_n 2, 1) := by decide +kernel
theorem dX3_sumOf_2 : decode cX3_sumOf 2 = .ok (.iconst 0, 1) := by decide +kernel
theorem dX3_sumOf_3 : decode cX3_sumOf 3 = .ok (.istore_n 3, 1) := by decide +kernel
theorem dX3_sumOf_4 : decode cX3_sumOf 4 = .ok (.iload_n 3, 1) := by decide +kernel
theorem dX3_sumOf_5 : decode cX3_sumOf 5 = .ok (.aload_n 0, 1) := by decide +kernel
theorem dX3_sumOf_6 : decode cX3_sumOf 6 = .ok (.getfield 36, 3) := by decide +kernel
theorem dX3_sumOf_9 : decode cX3_sumOf 9 = .ok (.if_icmp .ge 15, 3) := by decide +kernel
theorem dX3_sumOf_12 : decode cX3_sumOf 12 = .ok (.iload_n 2, 1) := by decide +kernel
theorem dX3_sumOf_13 : decode cX3_sumOf 13 = .ok (.aload_n 1, 1) := by decide +kernel
theorem dX3_sumOf_14 : decode cX3_sumOf 14 = .ok (.iload_n 3, 1) := by decide +kernel
theorem dX3_sumOf_15 : decode cX3_sumOf 15 = .ok (.iaload, 1) := by decide +kernel
theorem dX3_sumOf_16 : decode cX3_sumOf 16 = .ok (.iadd, 1) := by decide +kernel
theorem dX3_sumOf_17 : decode cX3_sumOf 17 = .ok (.istore_n 2, 1) := by decide +kernel
theorem dX3_sumOf_18 : decode cX3_sumOf 18 = .ok (.iinc 3 1, 3) := by decide +kernel
theorem dX3_sumOf_21 : decode cX3_sumOf 21 = .ok (.goto (-17), 3) := by decide +kernel
theorem dX3_sumOf_24 : decode cX3_sumOf 24 = .ok (.iload_n 2, 1) := by decide +kernel
theorem dX3_sumOf_25 : decode cX3_sumOf 25 = .ok (.ireturn, 1) := by decide +kernel
theorem dX10_isCourse_0 : decode cX10_isCourse 0 = .ok (.iload_n 0, 1) := by decide +kernel
theorem dX10_isCourse_1 : decode cX10_isCourse 1 = .ok (.ifCond .lt 12, 3) := by decide +kernel
theorem dX10_isCourse_4 : decode cX10_isCourse 4 = .ok (.iload_n 0, 1) := by decide +kernel
theorem dX10_isCourse_5 : decode cX10_isCourse 5 = .ok (.iconst 5, 1) := by decide +kernel
theorem dX10_isCourse_6 : decode cX10_isCourse 6 = .ok (.if_icmp .ge 7, 3) := by decide +kernel
theorem dX10_isCourse_9 : decode cX10_isCourse 9 = .ok (.iconst 1, 1) := by decide +kernel
theorem dX10_isCourse_10 : decode cX10_isCourse 10 = .ok (.goto 4, 3) := by decide +kernel
theorem dX10_isCourse_13 : decode cX10_isCourse 13 = .ok (.iconst 0, 1) := by decide +kernel
theorem dX10_isCourse_14 : decode cX10_isCourse 14 = .ok (.ireturn, 1) := by decide +kernel
abbrev mi_X10_isCourse : ob_MI := (yX10_isCourse, ob_ws yX10_isCourse cX10_isCourse 1 (some .boolean), cX10_isCourse, 1, (some .boolean), { frames := 0, cells := 0, slots := 0, locals := 0 })
noncomputable def f_X10_isCourse (σ : ob_St) (p0 : Int32) : Option (Int32 × ob_St) :=
  if p0 < 0 then
    ob_rb 0 σ
  else
    if (5 : Int32) ≤ p0 then
      ob_rb 0 σ
    else
      ob_rb 1 σ
set_option maxRecDepth 100000 in
set_option maxHeartbeats 4000000 in
theorem c_X10_isCourse {g : ob_GT} {ad : Nat → Nat} {r : Int32} {σ' : ob_St} {σ : ob_St} {p0 : Int32} (hf : f_X10_isCourse σ p0 = some (r, σ')) : ob_CT g (ob_X ad) mi_X10_isCourse [.int p0] σ (some (.int r)) σ' := by
  refine ob_ct (by decide +kernel) rfl (Nat.le_of_ble_eq_true rfl) ?_
  show ob_V g (ob_X ad) mi_X10_isCourse (some (.int r)) σ' σ 0 [(0, .int p0)] []
  refine vv_iload_n dX10_isCourse_0 0 rfl rfl 1 rfl ?_
  refine vv_if_lt dX10_isCourse_1 13 4 rfl rfl hf (fun hf => ?_) (fun hf => ?_)
  · refine vv_iconst dX10_isCourse_13 0 rfl 14 rfl ?_
    exact vv_iretz rfl dX10_isCourse_14 hf
  · refine vv_iload_n dX10_isCourse_4 0 rfl rfl 5 rfl ?_
    refine vv_iconst dX10_isCourse_5 5 rfl 6 rfl ?_
    refine vv_icmp_ge dX10_isCourse_6 13 9 rfl rfl hf (fun hf => ?_) (fun hf => ?_)
    · refine vv_iconst dX10_isCourse_13 0 rfl 14 rfl ?_
      exact vv_iretz rfl dX10_isCourse_14 hf
    · refine vv_iconst dX10_isCourse_9 1 rfl 10 rfl ?_
      refine vv_goto dX10_isCourse_10 14 rfl ?_
      exact vv_iretz rfl dX10_isCourse_14 hf
abbrev mi_X3_hasDish : ob_MI := (yX3_hasDish, ob_ws yX3_hasDish cX3_hasDish 2 (some .boolean), cX3_hasDish, 2, (some .boolean), { frames := 0, cells := 0, slots := 0, locals := 0 })
theorem gf_X3_hasDish_36 : ob_GF mi_X3_hasDish 36 3 0 := ⟨RX3, TX3, 9, rfl, by decide, fun x h => List.mem_cons_of_mem _ (uw_X3 x h), List.mem_cons_of_mem _ tw_81⟩
noncomputable def f_X3_hasDish (b : Nat) (σ : ob_St) (p1 : Int32) : Option (Int32 × ob_St) :=
  if p1 < 0 then
    ob_rb 0 σ
  else
    if (σ b 0) ≤ p1 then
      ob_rb 0 σ
    else
      ob_rb 1 σ
set_option maxRecDepth 100000 in
set_option maxHeartbeats 4000000 in
theorem c_X3_hasDish {g : ob_GT} {ad : Nat → Nat} {b : Nat} (hb : ob_isK b) {r : Int32} {σ' : ob_St} {σ : ob_St} {p1 : Int32} (hf : f_X3_hasDish b σ p1 = some (r, σ')) : ob_CT g (ob_X ad) mi_X3_hasDish [.ref (ad b), .int p1] σ (some (.int r)) σ' := by
  refine ob_ct (by decide +kernel) rfl (Nat.le_of_ble_eq_true rfl) ?_
  show ob_V g (ob_X ad) mi_X3_hasDish (some (.int r)) σ' σ 0 [(0, .ref (ad b)), (1, .int p1)] []
  refine vv_iload_n dX3_hasDish_0 1 rfl rfl 1 rfl ?_
  refine vv_if_lt dX3_hasDish_1 16 4 rfl rfl hf (fun hf => ?_) (fun hf => ?_)
  · refine vv_iconst dX3_hasDish_16 0 rfl 17 rfl ?_
    exact vv_iretz rfl dX3_hasDish_17 hf
  · refine vv_iload_n dX3_hasDish_4 1 rfl rfl 5 rfl ?_
    refine vv_aload_n dX3_hasDish_5 0 rfl rfl 6 rfl ?_
    refine vv_getI dX3_hasDish_6 0 gf_X3_hasDish_36 (ob_kl0 hb) (ob_ks hb) rfl 9 rfl ?_
    refine vv_icmp_ge dX3_hasDish_9 16 12 rfl rfl hf (fun hf => ?_) (fun hf => ?_)
    · refine vv_iconst dX3_hasDish_16 0 rfl 17 rfl ?_
      exact vv_iretz rfl dX3_hasDish_17 hf
    · refine vv_iconst dX3_hasDish_12 1 rfl 13 rfl ?_
      refine vv_goto dX3_hasDish_13 17 rfl ?_
      exact vv_iretz rfl dX3_hasDish_17 hf
abbrev mi_X3_whereIs : ob_MI := (yX3_whereIs, ob_ws yX3_whereIs cX3_whereIs 3 (some .int), cX3_whereIs, 3, (some .int), { frames := 0, cells := 0, slots := 0, locals := 0 })
theorem gf_X3_whereIs_36 : ob_GF mi_X3_whereIs 36 3 0 := ⟨RX3, TX3, 9, rfl, by decide, fun x h => List.mem_cons_of_mem _ (uw_X3 x h), List.mem_cons_of_mem _ tw_81⟩
theorem gf_X3_whereIs_27 : ob_GF mi_X3_whereIs 27 3 6 := ⟨RX3, TX3, 9, rfl, by decide, fun x h => List.mem_cons_of_mem _ (uw_X3 x h), List.mem_cons_of_mem _ tw_99⟩
noncomputable def L_X3_whereIs_2 (b : Nat) : Nat → ob_St → Int32 → Int32 → Option (Int32 × ob_St)
  | 0, _, _, _ => none
  | n + 1, σ, v1, v2 =>
    if (σ b 0) ≤ v2 then
      some ((-1), σ)
    else
      ob_ld σ (b + 6) 6 v2 fun v_1 =>
      if v_1 = v1 then
        some (v2, σ)
      else
        L_X3_whereIs_2 b n σ v1 (v2 + 1)
noncomputable def f_X3_whereIs (b : Nat) (σ : ob_St) (p1 : Int32) : Option (Int32 × ob_St) :=
  L_X3_whereIs_2 b 1000 σ p1 0
set_option maxRecDepth 100000 in
set_option maxHeartbeats 4000000 in
theorem l_X3_whereIs_2 {g : ob_GT} {ad : Nat → Nat} {b : Nat} (hb : ob_isK b) {r : Int32} {σ' : ob_St} : ∀ (n : Nat) {σ : ob_St} {v1 : Int32} {v2 : Int32}, L_X3_whereIs_2 b n σ v1 v2 = some (r, σ') → ob_V g (ob_X ad) mi_X3_whereIs (some (.int r)) σ' σ 2 [(0, .ref (ad b)), (1, .int v1), (2, .int v2)] [] := by
  intro n
  induction n with
  | zero => intro σ v1 v2 hf; exact absurd hf (fun h => by cases h)
  | succ n ih =>
    intro σ v1 v2 hf
    refine vv_iload_n dX3_whereIs_2 2 rfl rfl 3 rfl ?_
    refine vv_aload_n dX3_whereIs_3 0 rfl rfl 4 rfl ?_
    refine vv_getI dX3_whereIs_4 0 gf_X3_whereIs_36 (ob_kl0 hb) (ob_ks hb) rfl 7 rfl ?_
    refine vv_icmp_ge dX3_whereIs_7 28 10 rfl rfl hf (fun hf => ?_) (fun hf => ?_)
    · refine vv_iconst dX3_whereIs_28 (-1) rfl 29 rfl ?_
      exact vv_ireti rfl dX3_whereIs_29 hf
    · refine vv_aload_n dX3_whereIs_10 0 rfl rfl 11 rfl ?_
      refine vv_getR dX3_whereIs_11 6 gf_X3_whereIs_27 (ob_kl0 hb) (ob_ks hb) rfl 14 rfl ?_
      refine vv_iload_n dX3_whereIs_14 2 rfl rfl 15 rfl ?_
      refine vv_iald dX3_whereIs_15 (ob_kl 6 hb (by decide)) (ob_ka6 hb) 16 rfl hf (fun v_1 hf => ?_)
      refine vv_iload_n dX3_whereIs_16 1 rfl rfl 17 rfl ?_
      refine vv_icmp_ne dX3_whereIs_17 22 20 rfl rfl hf (fun hf => ?_) (fun hf => ?_)
      · refine vv_iinc dX3_whereIs_22 (v2 + 1) 2 [(2, .int (v2 + 1)), (0, .ref (ad b)), (1, .int v1)] rfl rfl (Nat.le_of_ble_eq_true rfl) rfl 25 rfl ?_
        refine vv_goto dX3_whereIs_25 2 rfl ?_
        refine vv_sub [1, 2, 0] [(0, .ref (ad b)), (1, .int v1), (2, .int (v2 + 1))] rfl ?_
        exact ih hf
      · refine vv_iload_n dX3_whereIs_20 2 rfl rfl 21 rfl ?_
        exact vv_ireti rfl dX3_whereIs_21 hf
set_option maxRecDepth 100000 in
set_option maxHeartbeats 4000000 in
theorem c_X3_whereIs {g : ob_GT} {ad : Nat → Nat} {b : Nat} (hb : ob_isK b) {r : Int32} {σ' : ob_St} {σ : ob_St} {p1 : Int32} (hf : f_X3_whereIs b σ p1 = some (r, σ')) : ob_CT g (ob_X ad) mi_X3_whereIs [.ref (ad b), .int p1] σ (some (.int r)) σ' := by
  refine ob_ct (by decide +kernel) rfl (Nat.le_of_ble_eq_true rfl) ?_
  show ob_V g (ob_X ad) mi_X3_whereIs (some (.int r)) σ' σ 0 [(0, .ref (ad b)), (1, .int p1)] []
  refine vv_iconst dX3_whereIs_0 0 rfl 1 rfl ?_
  refine vv_istore_n dX3_whereIs_1 [(2, .int 0), (0, .ref (ad b)), (1, .int p1)] rfl (Nat.le_of_ble_eq_true rfl) rfl 2 rfl ?_
  refine vv_sub [1, 2, 0] [(0, .ref (ad b)), (1, .int p1), (2, .int 0)] rfl ?_
  exact l_X3_whereIs_2 hb 1000 hf
abbrev mi_X3_swap : ob_MI := (yX3_swap, ob_ws yX3_swap cX3_swap 4 (some .boolean), cX3_swap, 4, (some .boolean), { frames := 1, cells := 0, slots := 0, locals := 21 })
theorem cv_X3_swap_46 : ob_CV mi_X3_swap mi_X3_hasDish 46 RX3 1 := ob_cvI rfl rfl tw_469 tw_470 tw_471 tw_49 tw_472 ⟨rfl, rfl⟩ ⟨rfl, by decide +kernel, by decide +kernel, by decide +kernel⟩ ⟨Nat.le_of_ble_eq_true rfl, Nat.le_of_ble_eq_true rfl⟩
theorem gf_X3_swap_36 : ob_GF mi_X3_swap 36 3 0 := ⟨RX3, TX3, 9, rfl, by decide, fun x h => List.mem_cons_of_mem _ (uw_X3 x h), List.mem_cons_of_mem _ tw_81⟩
theorem gf_X3_swap_27 : ob_GF mi_X3_swap 27 3 6 := ⟨RX3, TX3, 9, rfl, by decide, fun x h => List.mem_cons_of_mem _ (uw_X3 x h), List.mem_cons_of_mem _ tw_99⟩
noncomputable def L_X3_swap_25 (b : Nat) : Nat → ob_St → Int32 → Int32 → Int32 → Option (Int32 × ob_St)
  | 0, _, _, _, _ => none
  | n + 1, σ, v1, v2, v3 =>
    if (σ b 0) ≤ v3 then
      ob_rb 1 σ
    else
      ob_ld σ (b + 6) 6 v3 fun v_5 =>
      if v_5 = v1 then
        ob_sd σ (b + 6) 6 v3 v2 fun σ8 =>
        L_X3_swap_25 b n σ8 v1 v2 (v3 + 1)
      else
        ob_ld σ (b + 6) 6 v3 fun v_6 =>
        if v_6 = v2 then
          ob_sd σ (b + 6) 6 v3 v1 fun σ7 =>
          L_X3_swap_25 b n σ7 v1 v2 (v3 + 1)
        else
          L_X3_swap_25 b n σ v1 v2 (v3 + 1)
noncomputable def f_X3_swap (b : Nat) (σ : ob_St) (p1 : Int32) (p2 : Int32) : Option (Int32 × ob_St) :=
  if p1 = p2 then
    ob_rb 0 σ
  else
    ob_bd (f_X3_hasDish b σ p1) fun r1 σ2 =>
    if r1 = 0 then
      ob_rb 0 σ2
    else
      ob_bd (f_X3_hasDish b σ2 p2) fun r3 σ4 =>
      if r3 = 0 then
        ob_rb 0 σ4
      else
        L_X3_swap_25 b 1000 σ4 p1 p2 0
set_option maxRecDepth 100000 in
set_option maxHeartbeats 4000000 in
theorem l_X3_swap_25 {g : ob_GT} {ad : Nat → Nat} {b : Nat} (hb : ob_isK b) {r : Int32} {σ' : ob_St} : ∀ (n : Nat) {σ : ob_St} {v1 : Int32} {v2 : Int32} {v3 : Int32}, L_X3_swap_25 b n σ v1 v2 v3 = some (r, σ') → ob_V g (ob_X ad) mi_X3_swap (some (.int r)) σ' σ 25 [(0, .ref (ad b)), (1, .int v1), (2, .int v2), (3, .int v3)] [] := by
  intro n
  induction n with
  | zero => intro σ v1 v2 v3 hf; exact absurd hf (fun h => by cases h)
  | succ n ih =>
    intro σ v1 v2 v3 hf
    refine vv_iload_n dX3_swap_25 3 rfl rfl 26 rfl ?_
    refine vv_aload_n dX3_swap_26 0 rfl rfl 27 rfl ?_
    refine vv_getI dX3_swap_27 0 gf_X3_swap_36 (ob_kl0 hb) (ob_ks hb) rfl 30 rfl ?_
    refine vv_icmp_ge dX3_swap_30 76 33 rfl rfl hf (fun hf => ?_) (fun hf => ?_)
    · refine vv_iconst dX3_swap_76 1 rfl 77 rfl ?_
      exact vv_iretz rfl dX3_swap_77 hf
    · refine vv_aload_n dX3_swap_33 0 rfl rfl 34 rfl ?_
      refine vv_getR dX3_swap_34 6 gf_X3_swap_27 (ob_kl0 hb) (ob_ks hb) rfl 37 rfl ?_
      refine vv_iload_n dX3_swap_37 3 rfl rfl 38 rfl ?_
      refine vv_iald dX3_swap_38 (ob_kl 6 hb (by decide)) (ob_ka6 hb) 39 rfl hf (fun v_5 hf => ?_)
      refine vv_iload_n dX3_swap_39 1 rfl rfl 40 rfl ?_
      refine vv_icmp_ne dX3_swap_40 53 43 rfl rfl hf (fun hf => ?_) (fun hf => ?_)
      · refine vv_aload_n dX3_swap_53 0 rfl rfl 54 rfl ?_
        refine vv_getR dX3_swap_54 6 gf_X3_swap_27 (ob_kl0 hb) (ob_ks hb) rfl 57 rfl ?_
        refine vv_iload_n dX3_swap_57 3 rfl rfl 58 rfl ?_
        refine vv_iald dX3_swap_58 (ob_kl 6 hb (by decide)) (ob_ka6 hb) 59 rfl hf (fun v_6 hf => ?_)
        refine vv_iload_n dX3_swap_59 2 rfl rfl 60 rfl ?_
        refine vv_icmp_ne dX3_swap_60 70 63 rfl rfl hf (fun hf => ?_) (fun hf => ?_)
        · refine vv_iinc dX3_swap_70 (v3 + 1) 3 [(3, .int (v3 + 1)), (0, .ref (ad b)), (1, .int v1), (2, .int v2)] rfl rfl (Nat.le_of_ble_eq_true rfl) rfl 73 rfl ?_
          refine vv_goto dX3_swap_73 25 rfl ?_
          refine vv_sub [1, 2, 3, 0] [(0, .ref (ad b)), (1, .int v1), (2, .int v2), (3, .int (v3 + 1))] rfl ?_
          exact ih hf
        · refine vv_aload_n dX3_swap_63 0 rfl rfl 64 rfl ?_
          refine vv_getR dX3_swap_64 6 gf_X3_swap_27 (ob_kl0 hb) (ob_ks hb) rfl 67 rfl ?_
          refine vv_iload_n dX3_swap_67 3 rfl rfl 68 rfl ?_
          refine vv_iload_n dX3_swap_68 1 rfl rfl 69 rfl ?_
          refine vv_iast dX3_swap_69 (ob_kl 6 hb (by decide)) (ob_ka6 hb) 70 rfl hf (fun σ7 hf => ?_)
          refine vv_iinc dX3_swap_70 (v3 + 1) 3 [(3, .int (v3 + 1)), (0, .ref (ad b)), (1, .int v1), (2, .int v2)] rfl rfl (Nat.le_of_ble_eq_true rfl) rfl 73 rfl ?_
          refine vv_goto dX3_swap_73 25 rfl ?_
          refine vv_sub [1, 2, 3, 0] [(0, .ref (ad b)), (1, .int v1), (2, .int v2), (3, .int (v3 + 1))] rfl ?_
          exact ih hf
      · refine vv_aload_n dX3_swap_43 0 rfl rfl 44 rfl ?_
        refine vv_getR dX3_swap_44 6 gf_X3_swap_27 (ob_kl0 hb) (ob_ks hb) rfl 47 rfl ?_
        refine vv_iload_n dX3_swap_47 3 rfl rfl 48 rfl ?_
        refine vv_iload_n dX3_swap_48 2 rfl rfl 49 rfl ?_
        refine vv_iast dX3_swap_49 (ob_kl 6 hb (by decide)) (ob_ka6 hb) 50 rfl hf (fun σ8 hf => ?_)
        refine vv_goto dX3_swap_50 70 rfl ?_
        refine vv_iinc dX3_swap_70 (v3 + 1) 3 [(3, .int (v3 + 1)), (0, .ref (ad b)), (1, .int v1), (2, .int v2)] rfl rfl (Nat.le_of_ble_eq_true rfl) rfl 73 rfl ?_
        refine vv_goto dX3_swap_73 25 rfl ?_
        refine vv_sub [1, 2, 3, 0] [(0, .ref (ad b)), (1, .int v1), (2, .int v2), (3, .int (v3 + 1))] rfl ?_
        exact ih hf
set_option maxRecDepth 100000 in
set_option maxHeartbeats 4000000 in
theorem c_X3_swap {g : ob_GT} {ad : Nat → Nat} {b : Nat} (hb : ob_isK b) {r : Int32} {σ' : ob_St} {σ : ob_St} {p1 : Int32} {p2 : Int32} (hf : f_X3_swap b σ p1 p2 = some (r, σ')) : ob_CT g (ob_X ad) mi_X3_swap [.ref (ad b), .int p1, .int p2] σ (some (.int r)) σ' := by
  refine ob_ct (by decide +kernel) rfl (Nat.le_of_ble_eq_true rfl) ?_
  show ob_V g (ob_X ad) mi_X3_swap (some (.int r)) σ' σ 0 [(0, .ref (ad b)), (1, .int p1), (2, .int p2)] []
  refine vv_iload_n dX3_swap_0 1 rfl rfl 1 rfl ?_
  refine vv_iload_n dX3_swap_1 2 rfl rfl 2 rfl ?_
  refine vv_icmp_eq dX3_swap_2 21 5 rfl rfl hf (fun hf => ?_) (fun hf => ?_)
  · refine vv_iconst dX3_swap_21 0 rfl 22 rfl ?_
    exact vv_iretz rfl dX3_swap_22 hf
  · refine vv_aload_n dX3_swap_5 0 rfl rfl 6 rfl ?_
    refine vv_iload_n dX3_swap_6 1 rfl rfl 7 rfl ?_
    refine vv_callV [.int p1] [] (fun _ _ h => c_X3_hasDish hb h) (ob_rec (ob_kl0 hb) (ob_ks hb) rfl) cv_X3_swap_46 rfl (Nat.le_of_ble_eq_true rfl) 10 rfl dX3_swap_7 rfl hf (fun r1 σ2 hf => ?_)
    refine vv_if_eq dX3_swap_10 21 13 rfl rfl hf (fun hf => ?_) (fun hf => ?_)
    · refine vv_iconst dX3_swap_21 0 rfl 22 rfl ?_
      exact vv_iretz rfl dX3_swap_22 hf
    · refine vv_aload_n dX3_swap_13 0 rfl rfl 14 rfl ?_
      refine vv_iload_n dX3_swap_14 2 rfl rfl 15 rfl ?_
      refine vv_callV [.int p2] [] (fun _ _ h => c_X3_hasDish hb h) (ob_rec (ob_kl0 hb) (ob_ks hb) rfl) cv_X3_swap_46 rfl (Nat.le_of_ble_eq_true rfl) 18 rfl dX3_swap_15 rfl hf (fun r3 σ4 hf => ?_)
      refine vv_if_ne dX3_swap_18 23 21 rfl rfl hf (fun hf => ?_) (fun hf => ?_)
      · refine vv_iconst dX3_swap_23 0 rfl 24 rfl ?_
        refine vv_istore_n dX3_swap_24 [(3, .int 0), (0, .ref (ad b)), (1, .int p1), (2, .int p2)] rfl (Nat.le_of_ble_eq_true rfl) rfl 25 rfl ?_
        refine vv_sub [1, 2, 3, 0] [(0, .ref (ad b)), (1, .int p1), (2, .int p2), (3, .int 0)] rfl ?_
        exact l_X3_swap_25 hb 1000 hf
      · refine vv_iconst dX3_swap_21 0 rfl 22 rfl ?_
        exact vv_iretz rfl dX3_swap_22 hf
abbrev mi_X3_addDish : ob_MI := (yX3_addDish, ob_ws yX3_addDish cX3_addDish 6 (some .boolean), cX3_addDish, 6, (some .boolean), { frames := 1, cells := 0, slots := 0, locals := 20 })
theorem gf_X3_addDish_36 : ob_GF mi_X3_addDish 36 3 0 := ⟨RX3, TX3, 9, rfl, by decide, fun x h => List.mem_cons_of_mem _ (uw_X3 x h), List.mem_cons_of_mem _ tw_81⟩
theorem gf_X3_addDish_9 : ob_GF mi_X3_addDish 9 3 1 := ⟨RX3, TX3, 9, rfl, by decide, fun x h => List.mem_cons_of_mem _ (uw_X3 x h), List.mem_cons_of_mem _ tw_84⟩
theorem gf_X3_addDish_15 : ob_GF mi_X3_addDish 15 3 2 := ⟨RX3, TX3, 9, rfl, by decide, fun x h => List.mem_cons_of_mem _ (uw_X3 x h), List.mem_cons_of_mem _ tw_87⟩
theorem gf_X3_addDish_18 : ob_GF mi_X3_addDish 18 3 3 := ⟨RX3, TX3, 9, rfl, by decide, fun x h => List.mem_cons_of_mem _ (uw_X3 x h), List.mem_cons_of_mem _ tw_90⟩
theorem gf_X3_addDish_21 : ob_GF mi_X3_addDish 21 3 4 := ⟨RX3, TX3, 9, rfl, by decide, fun x h => List.mem_cons_of_mem _ (uw_X3 x h), List.mem_cons_of_mem _ tw_93⟩
theorem gf_X3_addDish_24 : ob_GF mi_X3_addDish 24 3 5 := ⟨RX3, TX3, 9, rfl, by decide, fun x h => List.mem_cons_of_mem _ (uw_X3 x h), List.mem_cons_of_mem _ tw_96⟩
theorem gf_X3_addDish_27 : ob_GF mi_X3_addDish 27 3 6 := ⟨RX3, TX3, 9, rfl, by decide, fun x h => List.mem_cons_of_mem _ (uw_X3 x h), List.mem_cons_of_mem _ tw_99⟩
theorem pf_X3_addDish_36 : ob_PF mi_X3_addDish 36 3 0 .int := ⟨RX3, TX3, 9, tyX3, rfl, by decide, fun x h => List.mem_cons_of_mem _ (uw_X3 x h), List.mem_cons_of_mem _ tw_81, tyX3_ok, nmX3, rfl, by decide +kernel⟩
noncomputable def f_X3_addDish (b : Nat) (σ : ob_St) (p1 : Int32) (p2 : Int32) (p3 : Int32) (p4 : Int32) (p5 : Int32) : Option (Int32 × ob_St) :=
  if (6 : Int32) ≤ (σ b 0) then
    ob_rb 0 σ
  else
    if (0 : Int32) ≤ p1 then
      if p2 < 1 then
        ob_rb 0 σ
      else
        if p4 < 1 then
          ob_rb 0 σ
        else
          if (6 : Int32) < p4 then
            ob_rb 0 σ
          else
            ob_bd (f_X10_isCourse σ p5) fun r1 σ2 =>
            if r1 = 0 then
              ob_rb 0 σ2
            else
              ob_sd σ2 (b + 1) 6 (σ2 b 0) p1 fun σ3 =>
              ob_sd σ3 (b + 2) 6 (σ3 b 0) p2 fun σ4 =>
              ob_sd σ4 (b + 3) 6 (σ4 b 0) p3 fun σ5 =>
              ob_sd σ5 (b + 4) 6 (σ5 b 0) p4 fun σ6 =>
              ob_sd σ6 (b + 5) 6 (σ6 b 0) p5 fun σ7 =>
              ob_sd σ7 (b + 6) 6 (σ7 b 0) (σ7 b 0) fun σ8 =>
              ob_pf σ8 b 0 ((σ8 b 0) + 1) fun σ9 =>
              ob_rb 1 σ9
    else
      ob_rb 0 σ
set_option maxRecDepth 100000 in
set_option maxHeartbeats 4000000 in
theorem c_X3_addDish {g : ob_GT} {ad : Nat → Nat} {b : Nat} (hb : ob_isK b) {r : Int32} {σ' : ob_St} {σ : ob_St} {p1 : Int32} {p2 : Int32} {p3 : Int32} {p4 : Int32} {p5 : Int32} (hf : f_X3_addDish b σ p1 p2 p3 p4 p5 = some (r, σ')) : ob_CT g (ob_X ad) mi_X3_addDish [.ref (ad b), .int p1, .int p2, .int p3, .int p4, .int p5] σ (some (.int r)) σ' := by
  refine ob_ct (by decide +kernel) rfl (Nat.le_of_ble_eq_true rfl) ?_
  show ob_V g (ob_X ad) mi_X3_addDish (some (.int r)) σ' σ 0 [(0, .ref (ad b)), (1, .int p1), (2, .int p2), (3, .int p3), (4, .int p4), (5, .int p5)] []
  refine vv_aload_n dX3_addDish_0 0 rfl rfl 1 rfl ?_
  refine vv_getI dX3_addDish_1 0 gf_X3_addDish_36 (ob_kl0 hb) (ob_ks hb) rfl 4 rfl ?_
  refine vv_bipush dX3_addDish_4 6 rfl 6 rfl ?_
  refine vv_icmp_ge dX3_addDish_6 13 9 rfl rfl hf (fun hf => ?_) (fun hf => ?_)
  · refine vv_iconst dX3_addDish_13 0 rfl 14 rfl ?_
    exact vv_iretz rfl dX3_addDish_14 hf
  · refine vv_iload_n dX3_addDish_9 1 rfl rfl 10 rfl ?_
    refine vv_if_ge dX3_addDish_10 15 13 rfl rfl hf (fun hf => ?_) (fun hf => ?_)
    · refine vv_iload_n dX3_addDish_15 2 rfl rfl 16 rfl ?_
      refine vv_iconst dX3_addDish_16 1 rfl 17 rfl ?_
      refine vv_icmp_lt dX3_addDish_17 41 20 rfl rfl hf (fun hf => ?_) (fun hf => ?_)
      · refine vv_iconst dX3_addDish_41 0 rfl 42 rfl ?_
        exact vv_iretz rfl dX3_addDish_42 hf
      · refine vv_iload dX3_addDish_20 4 rfl 22 rfl ?_
        refine vv_iconst dX3_addDish_22 1 rfl 23 rfl ?_
        refine vv_icmp_lt dX3_addDish_23 41 26 rfl rfl hf (fun hf => ?_) (fun hf => ?_)
        · refine vv_iconst dX3_addDish_41 0 rfl 42 rfl ?_
          exact vv_iretz rfl dX3_addDish_42 hf
        · refine vv_iload dX3_addDish_26 4 rfl 28 rfl ?_
          refine vv_bipush dX3_addDish_28 6 rfl 30 rfl ?_
          refine vv_icmp_gt dX3_addDish_30 41 33 rfl rfl hf (fun hf => ?_) (fun hf => ?_)
          · refine vv_iconst dX3_addDish_41 0 rfl 42 rfl ?_
            exact vv_iretz rfl dX3_addDish_42 hf
          · refine vv_iload dX3_addDish_33 5 rfl 35 rfl ?_
            refine vv_callSN [.int p5] [] (fun _ _ h => c_X10_isCourse h) (ob_good (fun _ h => List.mem_cons_of_mem _ h) tw_452) rfl ⟨rfl, rfl⟩ ⟨by decide +kernel, by decide +kernel, by decide +kernel⟩ ⟨Nat.le_of_ble_eq_true rfl, Nat.le_of_ble_eq_true rfl⟩ ⟨List.mem_cons_of_mem _ tw_48, List.mem_cons_of_mem _ tw_451⟩ (fun _ h => h.2.2.2.2) rfl (Nat.le_of_ble_eq_true rfl) 38 rfl dX3_addDish_35 rfl hf (fun r1 σ2 hf => ?_)
            refine vv_if_ne dX3_addDish_38 43 41 rfl rfl hf (fun hf => ?_) (fun hf => ?_)
            · refine vv_aload_n dX3_addDish_43 0 rfl rfl 44 rfl ?_
              refine vv_getR dX3_addDish_44 1 gf_X3_addDish_9 (ob_kl0 hb) (ob_ks hb) rfl 47 rfl ?_
              refine vv_aload_n dX3_addDish_47 0 rfl rfl 48 rfl ?_
              refine vv_getI dX3_addDish_48 0 gf_X3_addDish_36 (ob_kl0 hb) (ob_ks hb) rfl 51 rfl ?_
              refine vv_iload_n dX3_addDish_51 1 rfl rfl 52 rfl ?_
              refine vv_iast dX3_addDish_52 (ob_kl 1 hb (by decide)) (ob_ka1 hb) 53 rfl hf (fun σ3 hf => ?_)
              refine vv_aload_n dX3_addDish_53 0 rfl rfl 54 rfl ?_
              refine vv_getR dX3_addDish_54 2 gf_X3_addDish_15 (ob_kl0 hb) (ob_ks hb) rfl 57 rfl ?_
              refine vv_aload_n dX3_addDish_57 0 rfl rfl 58 rfl ?_
              refine vv_getI dX3_addDish_58 0 gf_X3_addDish_36 (ob_kl0 hb) (ob_ks hb) rfl 61 rfl ?_
              refine vv_iload_n dX3_addDish_61 2 rfl rfl 62 rfl ?_
              refine vv_iast dX3_addDish_62 (ob_kl 2 hb (by decide)) (ob_ka2 hb) 63 rfl hf (fun σ4 hf => ?_)
              refine vv_aload_n dX3_addDish_63 0 rfl rfl 64 rfl ?_
              refine vv_getR dX3_addDish_64 3 gf_X3_addDish_18 (ob_kl0 hb) (ob_ks hb) rfl 67 rfl ?_
              refine vv_aload_n dX3_addDish_67 0 rfl rfl 68 rfl ?_
              refine vv_getI dX3_addDish_68 0 gf_X3_addDish_36 (ob_kl0 hb) (ob_ks hb) rfl 71 rfl ?_
              refine vv_iload_n dX3_addDish_71 3 rfl rfl 72 rfl ?_
              refine vv_iast dX3_addDish_72 (ob_kl 3 hb (by decide)) (ob_ka3 hb) 73 rfl hf (fun σ5 hf => ?_)
              refine vv_aload_n dX3_addDish_73 0 rfl rfl 74 rfl ?_
              refine vv_getR dX3_addDish_74 4 gf_X3_addDish_21 (ob_kl0 hb) (ob_ks hb) rfl 77 rfl ?_
              refine vv_aload_n dX3_addDish_77 0 rfl rfl 78 rfl ?_
              refine vv_getI dX3_addDish_78 0 gf_X3_addDish_36 (ob_kl0 hb) (ob_ks hb) rfl 81 rfl ?_
              refine vv_iload dX3_addDish_81 4 rfl 83 rfl ?_
              refine vv_iast dX3_addDish_83 (ob_kl 4 hb (by decide)) (ob_ka4 hb) 84 rfl hf (fun σ6 hf => ?_)
              refine vv_aload_n dX3_addDish_84 0 rfl rfl 85 rfl ?_
              refine vv_getR dX3_addDish_85 5 gf_X3_addDish_24 (ob_kl0 hb) (ob_ks hb) rfl 88 rfl ?_
              refine vv_aload_n dX3_addDish_88 0 rfl rfl 89 rfl ?_
              refine vv_getI dX3_addDish_89 0 gf_X3_addDish_36 (ob_kl0 hb) (ob_ks hb) rfl 92 rfl ?_
              refine vv_iload dX3_addDish_92 5 rfl 94 rfl ?_
              refine vv_iast dX3_addDish_94 (ob_kl 5 hb (by decide)) (ob_ka5 hb) 95 rfl hf (fun σ7 hf => ?_)
              refine vv_aload_n dX3_addDish_95 0 rfl rfl 96 rfl ?_
              refine vv_getR dX3_addDish_96 6 gf_X3_addDish_27 (ob_kl0 hb) (ob_ks hb) rfl 99 rfl ?_
              refine vv_aload_n dX3_addDish_99 0 rfl rfl 100 rfl ?_
              refine vv_getI dX3_addDish_100 0 gf_X3_addDish_36 (ob_kl0 hb) (ob_ks hb) rfl 103 rfl ?_
              refine vv_aload_n dX3_addDish_103 0 rfl rfl 104 rfl ?_
              refine vv_getI dX3_addDish_104 0 gf_X3_addDish_36 (ob_kl0 hb) (ob_ks hb) rfl 107 rfl ?_
              refine vv_iast dX3_addDish_107 (ob_kl 6 hb (by decide)) (ob_ka6 hb) 108 rfl hf (fun σ8 hf => ?_)
              refine vv_aload_n dX3_addDish_108 0 rfl rfl 109 rfl ?_
              refine vv_dup dX3_addDish_109 rfl 110 rfl ?_
              refine vv_getI dX3_addDish_110 0 gf_X3_addDish_36 (ob_kl0 hb) (ob_ks hb) rfl 113 rfl ?_
              refine vv_iconst dX3_addDish_113 1 rfl 114 rfl ?_
              refine vv_iadd dX3_addDish_114 115 rfl ?_
              refine vv_putI dX3_addDish_115 0 pf_X3_addDish_36 (ob_kl0 hb) (ob_ks hb) rfl (ob_fit_int _) 118 rfl hf (fun σ9 hf => ?_)
              refine vv_iconst dX3_addDish_118 1 rfl 119 rfl ?_
              exact vv_iretz rfl dX3_addDish_119 hf
            · refine vv_iconst dX3_addDish_41 0 rfl 42 rfl ?_
              exact vv_iretz rfl dX3_addDish_42 hf
    · refine vv_iconst dX3_addDish_13 0 rfl 14 rfl ?_
      exact vv_iretz rfl dX3_addDish_14 hf
abbrev mi_X3_putInBox : ob_MI := (yX3_putInBox, ob_ws yX3_putInBox cX3_putInBox 3 (some .boolean), cX3_putInBox, 3, (some .boolean), { frames := 0, cells := 0, slots := 0, locals := 0 })
theorem gf_X3_putInBox_33 : ob_GF mi_X3_putInBox 33 3 8 := ⟨RX3, TX3, 9, rfl, by decide, fun x h => List.mem_cons_of_mem _ (uw_X3 x h), List.mem_cons_of_mem _ tw_103⟩
noncomputable def f_X3_putInBox (b : Nat) (σ : ob_St) (p1 : Int32) (p2 : Int32) : Option (Int32 × ob_St) :=
  ob_lt ob_least 6 p1 fun v_1 =>
  if p2 < v_1 then
    ob_rb 0 σ
  else
    ob_lt ob_great 6 p1 fun v_2 =>
    if p2 ≤ v_2 then
      ob_sd σ (b + 8) 6 p1 p2 fun σ3 =>
      ob_rb 1 σ3
    else
      ob_rb 0 σ
set_option maxRecDepth 100000 in
set_option maxHeartbeats 4000000 in
theorem c_X3_putInBox {g : ob_GT} {ad : Nat → Nat} {b : Nat} (hb : ob_isK b) {r : Int32} {σ' : ob_St} {σ : ob_St} {p1 : Int32} {p2 : Int32} (hf : f_X3_putInBox b σ p1 p2 = some (r, σ')) : ob_CT g (ob_X ad) mi_X3_putInBox [.ref (ad b), .int p1, .int p2] σ (some (.int r)) σ' := by
  refine ob_ct (by decide +kernel) rfl (Nat.le_of_ble_eq_true rfl) ?_
  show ob_V g (ob_X ad) mi_X3_putInBox (some (.int r)) σ' σ 0 [(0, .ref (ad b)), (1, .int p1), (2, .int p2)] []
  refine vv_iload_n dX3_putInBox_0 2 rfl rfl 1 rfl ?_
  refine vv_gstN dX3_putInBox_1 (fun _ h => h.2.2.1) (fun _ _ h => h.2.1.1) 4 rfl ?_
  refine vv_iload_n dX3_putInBox_4 1 rfl rfl 5 rfl ?_
  refine vv_tald dX3_putInBox_5 (fun _ _ h => h.2.1.2.1) 6 rfl hf (fun v_1 hf => ?_)
  refine vv_icmp_lt dX3_putInBox_6 18 9 rfl rfl hf (fun hf => ?_) (fun hf => ?_)
  · refine vv_iconst dX3_putInBox_18 0 rfl 19 rfl ?_
    exact vv_iretz rfl dX3_putInBox_19 hf
  · refine vv_iload_n dX3_putInBox_9 2 rfl rfl 10 rfl ?_
    refine vv_gstN dX3_putInBox_10 (fun _ h => h.2.2.2.1) (fun _ _ h => h.2.1.2.2.1) 13 rfl ?_
    refine vv_iload_n dX3_putInBox_13 1 rfl rfl 14 rfl ?_
    refine vv_tald dX3_putInBox_14 (fun _ _ h => h.2.1.2.2.2) 15 rfl hf (fun v_2 hf => ?_)
    refine vv_icmp_le dX3_putInBox_15 20 18 rfl rfl hf (fun hf => ?_) (fun hf => ?_)
    · refine vv_aload_n dX3_putInBox_20 0 rfl rfl 21 rfl ?_
      refine vv_getR dX3_putInBox_21 8 gf_X3_putInBox_33 (ob_kl0 hb) (ob_ks hb) rfl 24 rfl ?_
      refine vv_iload_n dX3_putInBox_24 1 rfl rfl 25 rfl ?_
      refine vv_iload_n dX3_putInBox_25 2 rfl rfl 26 rfl ?_
      refine vv_iast dX3_putInBox_26 (ob_kl 8 hb (by decide)) (ob_ka8 hb) 27 rfl hf (fun σ3 hf => ?_)
      refine vv_iconst dX3_putInBox_27 1 rfl 28 rfl ?_
      exact vv_iretz rfl dX3_putInBox_28 hf
    · refine vv_iconst dX3_putInBox_18 0 rfl 19 rfl ?_
      exact vv_iretz rfl dX3_putInBox_19 hf
abbrev mi_X3_putBegin : ob_MI := (yX3_putBegin, ob_ws yX3_putBegin cX3_putBegin 3 (some .boolean), cX3_putBegin, 3, (some .boolean), { frames := 1, cells := 0, slots := 0, locals := 20 })
theorem gf_X3_putBegin_30 : ob_GF mi_X3_putBegin 30 3 7 := ⟨RX3, TX3, 9, rfl, by decide, fun x h => List.mem_cons_of_mem _ (uw_X3 x h), List.mem_cons_of_mem _ tw_101⟩
noncomputable def f_X3_putBegin (b : Nat) (σ : ob_St) (p1 : Int32) (p2 : Int32) : Option (Int32 × ob_St) :=
  ob_bd (f_X10_isCourse σ p1) fun r1 σ2 =>
  if r1 = 0 then
    ob_rb 0 σ2
  else
    ob_sd σ2 (b + 7) 5 p1 p2 fun σ3 =>
    ob_rb 1 σ3
set_option maxRecDepth 100000 in
set_option maxHeartbeats 4000000 in
theorem c_X3_putBegin {g : ob_GT} {ad : Nat → Nat} {b : Nat} (hb : ob_isK b) {r : Int32} {σ' : ob_St} {σ : ob_St} {p1 : Int32} {p2 : Int32} (hf : f_X3_putBegin b σ p1 p2 = some (r, σ')) : ob_CT g (ob_X ad) mi_X3_putBegin [.ref (ad b), .int p1, .int p2] σ (some (.int r)) σ' := by
  refine ob_ct (by decide +kernel) rfl (Nat.le_of_ble_eq_true rfl) ?_
  show ob_V g (ob_X ad) mi_X3_putBegin (some (.int r)) σ' σ 0 [(0, .ref (ad b)), (1, .int p1), (2, .int p2)] []
  refine vv_iload_n dX3_putBegin_0 1 rfl rfl 1 rfl ?_
  refine vv_callSN [.int p1] [] (fun _ _ h => c_X10_isCourse h) (ob_good (fun _ h => List.mem_cons_of_mem _ h) tw_452) rfl ⟨rfl, rfl⟩ ⟨by decide +kernel, by decide +kernel, by decide +kernel⟩ ⟨Nat.le_of_ble_eq_true rfl, Nat.le_of_ble_eq_true rfl⟩ ⟨List.mem_cons_of_mem _ tw_48, List.mem_cons_of_mem _ tw_451⟩ (fun _ h => h.2.2.2.2) rfl (Nat.le_of_ble_eq_true rfl) 4 rfl dX3_putBegin_1 rfl hf (fun r1 σ2 hf => ?_)
  refine vv_if_ne dX3_putBegin_4 9 7 rfl rfl hf (fun hf => ?_) (fun hf => ?_)
  · refine vv_aload_n dX3_putBegin_9 0 rfl rfl 10 rfl ?_
    refine vv_getR dX3_putBegin_10 7 gf_X3_putBegin_30 (ob_kl0 hb) (ob_ks hb) rfl 13 rfl ?_
    refine vv_iload_n dX3_putBegin_13 1 rfl rfl 14 rfl ?_
    refine vv_iload_n dX3_putBegin_14 2 rfl rfl 15 rfl ?_
    refine vv_iast dX3_putBegin_15 (ob_kl 7 hb (by decide)) (ob_ka7 hb) 16 rfl hf (fun σ3 hf => ?_)
    refine vv_iconst dX3_putBegin_16 1 rfl 17 rfl ?_
    exact vv_iretz rfl dX3_putBegin_17 hf
  · refine vv_iconst dX3_putBegin_7 0 rfl 8 rfl ?_
    exact vv_iretz rfl dX3_putBegin_8 hf
abbrev mi_X3_beginOf : ob_MI := (yX3_beginOf, ob_ws yX3_beginOf cX3_beginOf 2 (some .int), cX3_beginOf, 2, (some .int), { frames := 0, cells := 0, slots := 0, locals := 0 })
theorem gf_X3_beginOf_30 : ob_GF mi_X3_beginOf 30 3 7 := ⟨RX3, TX3, 9, rfl, by decide, fun x h => List.mem_cons_of_mem _ (uw_X3 x h), List.mem_cons_of_mem _ tw_101⟩
noncomputable def f_X3_beginOf (b : Nat) (σ : ob_St) (p1 : Int32) : Option (Int32 × ob_St) :=
  ob_ld σ (b + 7) 5 p1 fun v_1 =>
  some (((100 * p1) + v_1), σ)
set_option maxRecDepth 100000 in
set_option maxHeartbeats 4000000 in
theorem c_X3_beginOf {g : ob_GT} {ad : Nat → Nat} {b : Nat} (hb : ob_isK b) {r : Int32} {σ' : ob_St} {σ : ob_St} {p1 : Int32} (hf : f_X3_beginOf b σ p1 = some (r, σ')) : ob_CT g (ob_X ad) mi_X3_beginOf [.ref (ad b), .int p1] σ (some (.int r)) σ' := by
  refine ob_ct (by decide +kernel) rfl (Nat.le_of_ble_eq_true rfl) ?_
  show ob_V g (ob_X ad) mi_X3_beginOf (some (.int r)) σ' σ 0 [(0, .ref (ad b)), (1, .int p1)] []
  refine vv_bipush dX3_beginOf_0 100 rfl 2 rfl ?_
  refine vv_iload_n dX3_beginOf_2 1 rfl rfl 3 rfl ?_
  refine vv_imul dX3_beginOf_3 4 rfl ?_
  refine vv_aload_n dX3_beginOf_4 0 rfl rfl 5 rfl ?_
  refine vv_getR dX3_beginOf_5 7 gf_X3_beginOf_30 (ob_kl0 hb) (ob_ks hb) rfl 8 rfl ?_
  refine vv_iload_n dX3_beginOf_8 1 rfl rfl 9 rfl ?_
  refine vv_iald dX3_beginOf_9 (ob_kl 7 hb (by decide)) (ob_ka7 hb) 10 rfl hf (fun v_1 hf => ?_)
  refine vv_iadd dX3_beginOf_10 11 rfl ?_
  exact vv_ireti rfl dX3_beginOf_11 hf
abbrev mi_X3_secondsWith : ob_MI := (yX3_secondsWith, ob_ws yX3_secondsWith cX3_secondsWith 3 (some .int), cX3_secondsWith, 3, (some .int), { frames := 1, cells := 0, slots := 0, locals := 21 })
theorem gf_X3_secondsWith_33 : ob_GF mi_X3_secondsWith 33 3 8 := ⟨RX3, TX3, 9, rfl, by decide, fun x h => List.mem_cons_of_mem _ (uw_X3 x h), List.mem_cons_of_mem _ tw_103⟩
theorem mm_X3_secondsWith_59 : ob_mm mi_X3_secondsWith 59 Lib.Math.abs.name (.code Lib.Math.abs.name Lib.Math.abs.code 1 (some .int)) := ⟨List.mem_cons_of_mem _ tw_519, List.mem_cons_of_mem _ tw_520, List.mem_cons_of_mem _ tw_64, List.mem_cons_of_mem _ tw_521⟩
theorem mm_X3_secondsWith_65 : ob_mm mi_X3_secondsWith 65 Lib.Math.max.name (.code Lib.Math.max.name Lib.Math.max.code 2 (some .int)) := ⟨List.mem_cons_of_mem _ tw_522, List.mem_cons_of_mem _ tw_384, List.mem_cons_of_mem _ tw_64, List.mem_cons_of_mem _ tw_385⟩
noncomputable def f_X3_secondsWith (b : Nat) (σ : ob_St) (p1 : Int32) : Option (Int32 × ob_St) :=
  ob_ld σ (b + 8) 6 2 fun v_1 =>
  ob_nm (ob_abs (p1 - v_1)) fun v_2 =>
  ob_ld σ (b + 8) 6 3 fun v_3 =>
  ob_ld σ (b + 8) 6 4 fun v_4 =>
  some ((v_3 * (ob_max 1 ((1 + (v_2 / 4)) - v_4))), σ)
set_option maxRecDepth 100000 in
set_option maxHeartbeats 4000000 in
theorem c_X3_secondsWith {g : ob_GT} {ad : Nat → Nat} {b : Nat} (hb : ob_isK b) {r : Int32} {σ' : ob_St} {σ : ob_St} {p1 : Int32} (hf : f_X3_secondsWith b σ p1 = some (r, σ')) : ob_CT g (ob_X ad) mi_X3_secondsWith [.ref (ad b), .int p1] σ (some (.int r)) σ' := by
  refine ob_ct (by decide +kernel) rfl (Nat.le_of_ble_eq_true rfl) ?_
  show ob_V g (ob_X ad) mi_X3_secondsWith (some (.int r)) σ' σ 0 [(0, .ref (ad b)), (1, .int p1)] []
  refine vv_iload_n dX3_secondsWith_0 1 rfl rfl 1 rfl ?_
  refine vv_aload_n dX3_secondsWith_1 0 rfl rfl 2 rfl ?_
  refine vv_getR dX3_secondsWith_2 8 gf_X3_secondsWith_33 (ob_kl0 hb) (ob_ks hb) rfl 5 rfl ?_
  refine vv_iconst dX3_secondsWith_5 2 rfl 6 rfl ?_
  refine vv_iald dX3_secondsWith_6 (ob_kl 8 hb (by decide)) (ob_ka8 hb) 7 rfl hf (fun v_1 hf => ?_)
  refine vv_isub dX3_secondsWith_7 8 rfl ?_
  refine vv_abs dX3_secondsWith_8 mm_X3_secondsWith_59 (Nat.le_of_ble_eq_true rfl) (Nat.le_of_ble_eq_true rfl) 11 rfl ?_
  refine vv_nm hf (fun v_2 hf => ?_)
  refine vv_istore_n dX3_secondsWith_11 [(2, .int v_2), (0, .ref (ad b)), (1, .int p1)] rfl (Nat.le_of_ble_eq_true rfl) rfl 12 rfl ?_
  refine vv_aload_n dX3_secondsWith_12 1 rfl rfl 13 rfl ?_
  refine vv_getR dX3_secondsWith_13 8 gf_X3_secondsWith_33 (ob_kl0 hb) (ob_ks hb) rfl 16 rfl ?_
  refine vv_iconst dX3_secondsWith_16 3 rfl 17 rfl ?_
  refine vv_iald dX3_secondsWith_17 (ob_kl 8 hb (by decide)) (ob_ka8 hb) 18 rfl hf (fun v_3 hf => ?_)
  refine vv_iconst dX3_secondsWith_18 1 rfl 19 rfl ?_
  refine vv_iconst dX3_secondsWith_19 1 rfl 20 rfl ?_
  refine vv_iload_n dX3_secondsWith_20 0 rfl rfl 21 rfl ?_
  refine vv_iconst dX3_secondsWith_21 4 rfl 22 rfl ?_
  refine vv_idiv dX3_secondsWith_22 (by decide) 23 rfl ?_
  refine vv_iadd dX3_secondsWith_23 24 rfl ?_
  refine vv_aload_n dX3_secondsWith_24 1 rfl rfl 25 rfl ?_
  refine vv_getR dX3_secondsWith_25 8 gf_X3_secondsWith_33 (ob_kl0 hb) (ob_ks hb) rfl 28 rfl ?_
  refine vv_iconst dX3_secondsWith_28 4 rfl 29 rfl ?_
  refine vv_iald dX3_secondsWith_29 (ob_kl 8 hb (by decide)) (ob_ka8 hb) 30 rfl hf (fun v_4 hf => ?_)
  refine vv_isub dX3_secondsWith_30 31 rfl ?_
  refine vv_max dX3_secondsWith_31 mm_X3_secondsWith_65 (Nat.le_of_ble_eq_true rfl) (Nat.le_of_ble_eq_true rfl) 34 rfl ?_
  refine vv_imul dX3_secondsWith_34 35 rfl ?_
  exact vv_ireti rfl dX3_secondsWith_35 hf
abbrev mi_X3_sumOf : ob_MI := (yX3_sumOf, ob_ws yX3_sumOf cX3_sumOf 4 (some .int), cX3_sumOf, 4, (some .int), { frames := 0, cells := 0, slots := 0, locals := 0 })
theorem gf_X3_sumOf_36 : ob_GF mi_X3_sumOf 36 3 0 := ⟨RX3, TX3, 9, rfl, by decide, fun x h => List.mem_cons_of_mem _ (uw_X3 x h), List.mem_cons_of_mem _ tw_81⟩
noncomputable def L_X3_sumOf_4 (b : Nat) (a : Nat) : Nat → ob_St → Int32 → Int32 → Option (Int32 × ob_St)
  | 0, _, _, _ => none
  | n + 1, σ, v2, v3 =>
    if (σ b 0) ≤ v3 then
      some (v2, σ)
    else
      ob_ld σ a 6 v3 fun v_1 =>
      ob_nm (v2 + v_1) fun v_2 =>
      L_X3_sumOf_4 b a n σ v_2 (v3 + 1)
noncomputable def f_X3_sumOf (b : Nat) (a : Nat) (σ : ob_St) : Option (Int32 × ob_St) :=
  L_X3_sumOf_4 b a 1000 σ 0 0
set_option maxRecDepth 100000 in
set_option maxHeartbeats 4000000 in
theorem l_X3_sumOf_4 {g : ob_GT} {ad : Nat → Nat} {b : Nat} {a : Nat} (hb : ob_isK b) (ha : a < 52 ∧ ob_xsh a = .inl 6) {r : Int32} {σ' : ob_St} : ∀ (n : Nat) {σ : ob_St} {v2 : Int32} {v3 : Int32}, L_X3_sumOf_4 b a n σ v2 v3 = some (r, σ') → ob_V g (ob_X ad) mi_X3_sumOf (some (.int r)) σ' σ 4 [(0, .ref (ad b)), (1, .ref (ad a)), (2, .int v2), (3, .int v3)] [] := by
  intro n
  induction n with
  | zero => intro σ v2 v3 hf; exact absurd hf (fun h => by cases h)
  | succ n ih =>
    intro σ v2 v3 hf
    refine vv_iload_n dX3_sumOf_4 3 rfl rfl 5 rfl ?_
    refine vv_aload_n dX3_sumOf_5 0 rfl rfl 6 rfl ?_
    refine vv_getI dX3_sumOf_6 0 gf_X3_sumOf_36 (ob_kl0 hb) (ob_ks hb) rfl 9 rfl ?_
    refine vv_icmp_ge dX3_sumOf_9 24 12 rfl rfl hf (fun hf => ?_) (fun hf => ?_)
    · refine vv_iload_n dX3_sumOf_24 2 rfl rfl 25 rfl ?_
      exact vv_ireti rfl dX3_sumOf_25 hf
    · refine vv_iload_n dX3_sumOf_12 2 rfl rfl 13 rfl ?_
      refine vv_aload_n dX3_sumOf_13 1 rfl rfl 14 rfl ?_
      refine vv_iload_n dX3_sumOf_14 3 rfl rfl 15 rfl ?_
      refine vv_iald dX3_sumOf_15 ha.1 ha.2 16 rfl hf (fun v_1 hf => ?_)
      refine vv_iadd dX3_sumOf_16 17 rfl ?_
      refine vv_nm hf (fun v_2 hf => ?_)
      refine vv_istore_n dX3_sumOf_17 [(2, .int v_2), (0, .ref (ad b)), (1, .ref (ad a)), (3, .int v3)] rfl (Nat.le_of_ble_eq_true rfl) rfl 18 rfl ?_
      refine vv_iinc dX3_sumOf_18 (v3 + 1) 3 [(3, .int (v3 + 1)), (2, .int v_2), (0, .ref (ad b)), (1, .ref (ad a))] rfl rfl (Nat.le_of_ble_eq_true rfl) rfl 21 rfl ?_
      refine vv_goto dX3_sumOf_21 4 rfl ?_
      refine vv_sub [2, 3, 1, 0] [(0, .ref (ad b)), (1, .ref (ad a)), (2, .int v_2), (3, .int (v3 + 1))] rfl ?_
      exact ih hf
set_option maxRecDepth 100000 in
set_option maxHeartbeats 4000000 in
theorem c_X3_sumOf {g : ob_GT} {ad : Nat → Nat} {b : Nat} {a : Nat} (hb : ob_isK b) (ha : a < 52 ∧ ob_xsh a = .inl 6) {r : Int32} {σ' : ob_St} {σ : ob_St} (hf : f_X3_sumOf b a σ = some (r, σ')) : ob_CT g (ob_X ad) mi_X3_sumOf [.ref (ad b), .ref (ad a)] σ (some (.int r)) σ' := by
  refine ob_ct (by decide +kernel) rfl (Nat.le_of_ble_eq_true rfl) ?_
  show ob_V g (ob_X ad) mi_X3_sumOf (some (.int r)) σ' σ 0 [(0, .ref (ad b)), (1, .ref (ad a))] []
  refine vv_iconst dX3_sumOf_0 0 rfl 1 rfl ?_
  refine vv_istore_n dX3_sumOf_1 [(2, .int 0), (0, .ref (ad b)), (1, .ref (ad a))] rfl (Nat.le_of_ble_eq_true rfl) rfl 2 rfl ?_
  refine vv_iconst dX3_sumOf_2 0 rfl 3 rfl ?_
  refine vv_istore_n dX3_sumOf_3 [(3, .int 0), (2, .int 0), (0, .ref (ad b)), (1, .ref (ad a))] rfl (Nat.le_of_ble_eq_true rfl) rfl 4 rfl ?_
  refine vv_sub [2, 3, 1, 0] [(0, .ref (ad b)), (1, .ref (ad a)), (2, .int 0), (3, .int 0)] rfl ?_
  exact l_X3_sumOf_4 hb ha 1000 hf
abbrev mi_X3_takeOver : ob_MI := (yX3_takeOver, ob_ws yX3_takeOver cX3_takeOver 2 none, cX3_takeOver, 2, none, { frames := 1, cells := 0, slots := 0, locals := 60 })
theorem gf_X3_takeOver_36 : ob_GF mi_X3_takeOver 36 3 0 := ⟨RX3, TX3, 9, rfl, by decide, fun x h => List.mem_cons_of_mem _ (uw_X3 x h), List.mem_cons_of_mem _ tw_81⟩
theorem pf_X3_takeOver_36 : ob_PF mi_X3_takeOver 36 3 0 .int := ⟨RX3, TX3, 9, tyX3, rfl, by decide, fun x h => List.mem_cons_of_mem _ (uw_X3 x h), List.mem_cons_of_mem _ tw_81, tyX3_ok, nmX3, rfl, by decide +kernel⟩
theorem gf_X3_takeOver_9 : ob_GF mi_X3_takeOver 9 3 1 := ⟨RX3, TX3, 9, rfl, by decide, fun x h => List.mem_cons_of_mem _ (uw_X3 x h), List.mem_cons_of_mem _ tw_84⟩
theorem cp_X3_takeOver_40 : Cond.methodLink (mi_X3_takeOver).1.cls 40 arraycopyName ∈ (mi_X3_takeOver).2.1 ∧ Cond.native arraycopyName ∈ (mi_X3_takeOver).2.1 ∧ Cond.static arraycopyName ∈ (mi_X3_takeOver).2.1 ∧ Cond.initialized "java/lang/System" ∈ (mi_X3_takeOver).2.1 := ⟨List.mem_cons_of_mem _ tw_431, List.mem_cons_of_mem _ tw_433, List.mem_cons_of_mem _ tw_432, List.mem_cons_of_mem _ tw_66⟩
theorem gf_X3_takeOver_15 : ob_GF mi_X3_takeOver 15 3 2 := ⟨RX3, TX3, 9, rfl, by decide, fun x h => List.mem_cons_of_mem _ (uw_X3 x h), List.mem_cons_of_mem _ tw_87⟩
theorem gf_X3_takeOver_18 : ob_GF mi_X3_takeOver 18 3 3 := ⟨RX3, TX3, 9, rfl, by decide, fun x h => List.mem_cons_of_mem _ (uw_X3 x h), List.mem_cons_of_mem _ tw_90⟩
theorem gf_X3_takeOver_21 : ob_GF mi_X3_takeOver 21 3 4 := ⟨RX3, TX3, 9, rfl, by decide, fun x h => List.mem_cons_of_mem _ (uw_X3 x h), List.mem_cons_of_mem _ tw_93⟩
theorem gf_X3_takeOver_24 : ob_GF mi_X3_takeOver 24 3 5 := ⟨RX3, TX3, 9, rfl, by decide, fun x h => List.mem_cons_of_mem _ (uw_X3 x h), List.mem_cons_of_mem _ tw_96⟩
theorem gf_X3_takeOver_27 : ob_GF mi_X3_takeOver 27 3 6 := ⟨RX3, TX3, 9, rfl, by decide, fun x h => List.mem_cons_of_mem _ (uw_X3 x h), List.mem_cons_of_mem _ tw_99⟩
theorem gf_X3_takeOver_30 : ob_GF mi_X3_takeOver 30 3 7 := ⟨RX3, TX3, 9, rfl, by decide, fun x h => List.mem_cons_of_mem _ (uw_X3 x h), List.mem_cons_of_mem _ tw_101⟩
theorem gf_X3_takeOver_33 : ob_GF mi_X3_takeOver 33 3 8 := ⟨RX3, TX3, 9, rfl, by decide, fun x h => List.mem_cons_of_mem _ (uw_X3 x h), List.mem_cons_of_mem _ tw_103⟩
noncomputable def f_X3_takeOver (b : Nat) (b2 : Nat) (σ : ob_St) : Option (Unit × ob_St) :=
  ob_pf σ b 0 (σ b2 0) fun σ1 =>
  ob_cp σ1 (b2 + 1) (b + 1) 6 fun σ2 =>
  ob_cp σ2 (b2 + 2) (b + 2) 6 fun σ3 =>
  ob_cp σ3 (b2 + 3) (b + 3) 6 fun σ4 =>
  ob_cp σ4 (b2 + 4) (b + 4) 6 fun σ5 =>
  ob_cp σ5 (b2 + 5) (b + 5) 6 fun σ6 =>
  ob_cp σ6 (b2 + 6) (b + 6) 6 fun σ7 =>
  ob_cp σ7 (b2 + 7) (b + 7) 5 fun σ8 =>
  ob_cp σ8 (b2 + 8) (b + 8) 6 fun σ9 =>
  some ((), σ9)
set_option maxRecDepth 100000 in
set_option maxHeartbeats 4000000 in
theorem c_X3_takeOver {g : ob_GT} {ad : Nat → Nat} {b : Nat} {b2 : Nat} (hb : ob_isK b) (hb2 : ob_isK b2) {r : Unit} {σ' : ob_St} {σ : ob_St} (hf : f_X3_takeOver b b2 σ = some (r, σ')) : ob_CT g (ob_X ad) mi_X3_takeOver [.ref (ad b), .ref (ad b2)] σ none σ' := by
  refine ob_ct (by decide +kernel) rfl (Nat.le_of_ble_eq_true rfl) ?_
  show ob_V g (ob_X ad) mi_X3_takeOver none σ' σ 0 [(0, .ref (ad b)), (1, .ref (ad b2))] []
  refine vv_aload_n dX3_takeOver_0 0 rfl rfl 1 rfl ?_
  refine vv_aload_n dX3_takeOver_1 1 rfl rfl 2 rfl ?_
  refine vv_getI dX3_takeOver_2 0 gf_X3_takeOver_36 (ob_kl0 hb2) (ob_ks hb2) rfl 5 rfl ?_
  refine vv_putI dX3_takeOver_5 0 pf_X3_takeOver_36 (ob_kl0 hb) (ob_ks hb) rfl (ob_fit_int _) 8 rfl hf (fun σ1 hf => ?_)
  refine vv_aload_n dX3_takeOver_8 1 rfl rfl 9 rfl ?_
  refine vv_getR dX3_takeOver_9 1 gf_X3_takeOver_9 (ob_kl0 hb2) (ob_ks hb2) rfl 12 rfl ?_
  refine vv_iconst dX3_takeOver_12 0 rfl 13 rfl ?_
  refine vv_aload_n dX3_takeOver_13 0 rfl rfl 14 rfl ?_
  refine vv_getR dX3_takeOver_14 1 gf_X3_takeOver_9 (ob_kl0 hb) (ob_ks hb) rfl 17 rfl ?_
  refine vv_iconst dX3_takeOver_17 0 rfl 18 rfl ?_
  refine vv_bipush dX3_takeOver_18 6 rfl 20 rfl ?_
  refine vv_copy dX3_takeOver_20 6 (ob_kl 1 hb2 (by decide)) (ob_ka1 hb2) (ob_kl 1 hb (by decide)) (ob_ka1 hb) ⟨by decide, by decide⟩ ⟨by decide, by decide⟩ cp_X3_takeOver_40 (Nat.le_of_ble_eq_true rfl) (Nat.le_of_ble_eq_true rfl) 23 rfl hf (fun σ2 hf => ?_)
  refine vv_aload_n dX3_takeOver_23 1 rfl rfl 24 rfl ?_
  refine vv_getR dX3_takeOver_24 2 gf_X3_takeOver_15 (ob_kl0 hb2) (ob_ks hb2) rfl 27 rfl ?_
  refine vv_iconst dX3_takeOver_27 0 rfl 28 rfl ?_
  refine vv_aload_n dX3_takeOver_28 0 rfl rfl 29 rfl ?_
  refine vv_getR dX3_takeOver_29 2 gf_X3_takeOver_15 (ob_kl0 hb) (ob_ks hb) rfl 32 rfl ?_
  refine vv_iconst dX3_takeOver_32 0 rfl 33 rfl ?_
  refine vv_bipush dX3_takeOver_33 6 rfl 35 rfl ?_
  refine vv_copy dX3_takeOver_35 6 (ob_kl 2 hb2 (by decide)) (ob_ka2 hb2) (ob_kl 2 hb (by decide)) (ob_ka2 hb) ⟨by decide, by decide⟩ ⟨by decide, by decide⟩ cp_X3_takeOver_40 (Nat.le_of_ble_eq_true rfl) (Nat.le_of_ble_eq_true rfl) 38 rfl hf (fun σ3 hf => ?_)
  refine vv_aload_n dX3_takeOver_38 1 rfl rfl 39 rfl ?_
  refine vv_getR dX3_takeOver_39 3 gf_X3_takeOver_18 (ob_kl0 hb2) (ob_ks hb2) rfl 42 rfl ?_
  refine vv_iconst dX3_takeOver_42 0 rfl 43 rfl ?_
  refine vv_aload_n dX3_takeOver_43 0 rfl rfl 44 rfl ?_
  refine vv_getR dX3_takeOver_44 3 gf_X3_takeOver_18 (ob_kl0 hb) (ob_ks hb) rfl 47 rfl ?_
  refine vv_iconst dX3_takeOver_47 0 rfl 48 rfl ?_
  refine vv_bipush dX3_takeOver_48 6 rfl 50 rfl ?_
  refine vv_copy dX3_takeOver_50 6 (ob_kl 3 hb2 (by decide)) (ob_ka3 hb2) (ob_kl 3 hb (by decide)) (ob_ka3 hb) ⟨by decide, by decide⟩ ⟨by decide, by decide⟩ cp_X3_takeOver_40 (Nat.le_of_ble_eq_true rfl) (Nat.le_of_ble_eq_true rfl) 53 rfl hf (fun σ4 hf => ?_)
  refine vv_aload_n dX3_takeOver_53 1 rfl rfl 54 rfl ?_
  refine vv_getR dX3_takeOver_54 4 gf_X3_takeOver_21 (ob_kl0 hb2) (ob_ks hb2) rfl 57 rfl ?_
  refine vv_iconst dX3_takeOver_57 0 rfl 58 rfl ?_
  refine vv_aload_n dX3_takeOver_58 0 rfl rfl 59 rfl ?_
  refine vv_getR dX3_takeOver_59 4 gf_X3_takeOver_21 (ob_kl0 hb) (ob_ks hb) rfl 62 rfl ?_
  refine vv_iconst dX3_takeOver_62 0 rfl 63 rfl ?_
  refine vv_bipush dX3_takeOver_63 6 rfl 65 rfl ?_
  refine vv_copy dX3_takeOver_65 6 (ob_kl 4 hb2 (by decide)) (ob_ka4 hb2) (ob_kl 4 hb (by decide)) (ob_ka4 hb) ⟨by decide, by decide⟩ ⟨by decide, by decide⟩ cp_X3_takeOver_40 (Nat.le_of_ble_eq_true rfl) (Nat.le_of_ble_eq_true rfl) 68 rfl hf (fun σ5 hf => ?_)
  refine vv_aload_n dX3_takeOver_68 1 rfl rfl 69 rfl ?_
  refine vv_getR dX3_takeOver_69 5 gf_X3_takeOver_24 (ob_kl0 hb2) (ob_ks hb2) rfl 72 rfl ?_
  refine vv_iconst dX3_takeOver_72 0 rfl 73 rfl ?_
  refine vv_aload_n dX3_takeOver_73 0 rfl rfl 74 rfl ?_
  refine vv_getR dX3_takeOver_74 5 gf_X3_takeOver_24 (ob_kl0 hb) (ob_ks hb) rfl 77 rfl ?_
  refine vv_iconst dX3_takeOver_77 0 rfl 78 rfl ?_
  refine vv_bipush dX3_takeOver_78 6 rfl 80 rfl ?_
  refine vv_copy dX3_takeOver_80 6 (ob_kl 5 hb2 (by decide)) (ob_ka5 hb2) (ob_kl 5 hb (by decide)) (ob_ka5 hb) ⟨by decide, by decide⟩ ⟨by decide, by decide⟩ cp_X3_takeOver_40 (Nat.le_of_ble_eq_true rfl) (Nat.le_of_ble_eq_true rfl) 83 rfl hf (fun σ6 hf => ?_)
  refine vv_aload_n dX3_takeOver_83 1 rfl rfl 84 rfl ?_
  refine vv_getR dX3_takeOver_84 6 gf_X3_takeOver_27 (ob_kl0 hb2) (ob_ks hb2) rfl 87 rfl ?_
  refine vv_iconst dX3_takeOver_87 0 rfl 88 rfl ?_
  refine vv_aload_n dX3_takeOver_88 0 rfl rfl 89 rfl ?_
  refine vv_getR dX3_takeOver_89 6 gf_X3_takeOver_27 (ob_kl0 hb) (ob_ks hb) rfl 92 rfl ?_
  refine vv_iconst dX3_takeOver_92 0 rfl 93 rfl ?_
  refine vv_bipush dX3_takeOver_93 6 rfl 95 rfl ?_
  refine vv_copy dX3_takeOver_95 6 (ob_kl 6 hb2 (by decide)) (ob_ka6 hb2) (ob_kl 6 hb (by decide)) (ob_ka6 hb) ⟨by decide, by decide⟩ ⟨by decide, by decide⟩ cp_X3_takeOver_40 (Nat.le_of_ble_eq_true rfl) (Nat.le_of_ble_eq_true rfl) 98 rfl hf (fun σ7 hf => ?_)
  refine vv_aload_n dX3_takeOver_98 1 rfl rfl 99 rfl ?_
  refine vv_getR dX3_takeOver_99 7 gf_X3_takeOver_30 (ob_kl0 hb2) (ob_ks hb2) rfl 102 rfl ?_
  refine vv_iconst dX3_takeOver_102 0 rfl 103 rfl ?_
  refine vv_aload_n dX3_takeOver_103 0 rfl rfl 104 rfl ?_
  refine vv_getR dX3_takeOver_104 7 gf_X3_takeOver_30 (ob_kl0 hb) (ob_ks hb) rfl 107 rfl ?_
  refine vv_iconst dX3_takeOver_107 0 rfl 108 rfl ?_
  refine vv_iconst dX3_takeOver_108 5 rfl 109 rfl ?_
  refine vv_copy dX3_takeOver_109 5 (ob_kl 7 hb2 (by decide)) (ob_ka7 hb2) (ob_kl 7 hb (by decide)) (ob_ka7 hb) ⟨by decide, by decide⟩ ⟨by decide, by decide⟩ cp_X3_takeOver_40 (Nat.le_of_ble_eq_true rfl) (Nat.le_of_ble_eq_true rfl) 112 rfl hf (fun σ8 hf => ?_)
  refine vv_aload_n dX3_takeOver_112 1 rfl rfl 113 rfl ?_
  refine vv_getR dX3_takeOver_113 8 gf_X3_takeOver_33 (ob_kl0 hb2) (ob_ks hb2) rfl 116 rfl ?_
  refine vv_iconst dX3_takeOver_116 0 rfl 117 rfl ?_
  refine vv_aload_n dX3_takeOver_117 0 rfl rfl 118 rfl ?_
  refine vv_getR dX3_takeOver_118 8 gf_X3_takeOver_33 (ob_kl0 hb) (ob_ks hb) rfl 121 rfl ?_
  refine vv_iconst dX3_takeOver_121 0 rfl 122 rfl ?_
  refine vv_aload_n dX3_takeOver_122 0 rfl rfl 123 rfl ?_
  refine vv_getR dX3_takeOver_123 8 gf_X3_takeOver_33 (ob_kl0 hb) (ob_ks hb) rfl 126 rfl ?_
  refine vv_alen dX3_takeOver_126 6 (ob_kl 8 hb (by decide)) (ob_ka8 hb) rfl 127 rfl ?_
  refine vv_copy dX3_takeOver_127 6 (ob_kl 8 hb2 (by decide)) (ob_ka8 hb2) (ob_kl 8 hb (by decide)) (ob_ka8 hb) ⟨by decide, by decide⟩ ⟨by decide, by decide⟩ cp_X3_takeOver_40 (Nat.le_of_ble_eq_true rfl) (Nat.le_of_ble_eq_true rfl) 130 rfl hf (fun σ9 hf => ?_)
  exact vv_ret rfl dX3_takeOver_130 hf
end
