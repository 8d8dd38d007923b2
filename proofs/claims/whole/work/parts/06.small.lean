theorem dX0_init_0 : decode cX0_init 0 = .ok (.aload_n 0, 1) := by decide +kernel
theorem dX0_init_1 : decode cX0_init 1 = .ok (.invokespecial 1, 3) := by decide +kernel
theorem dX0_init_4 : decode cX0_init 4 = .ok (.return_, 1) := by decide +kernel
theorem dX0_cooled_0 : decode cX0_cooled 0 = .ok (.iconst 0, 1) := by decide +kernel
theorem dX0_cooled_1 : decode cX0_cooled 1 = .ok (.ireturn, 1) := by decide +kernel
theorem dX2_init_0 : decode cX2_init 0 = .ok (.aload_n 0, 1) := by decide +kernel
theorem dX2_init_1 : decode cX2_init 1 = .ok (.invokespecial 1, 3) := by decide +kernel
theorem dX2_init_4 : decode cX2_init 4 = .ok (.return_, 1) := by decide +kernel
theorem dX2_cooled_0 : decode cX2_cooled 0 = .ok (.aload_n 0, 1) := by decide +kernel
theorem dX2_cooled_1 : decode cX2_cooled 1 = .ok (.iload_n 1, 1) := by decide +kernel
theorem dX2_cooled_2 : decode cX2_cooled 2 = .ok (.invokespecial 7, 3) := by decide +kernel
theorem dX2_cooled_5 : decode cX2_cooled 5 = .ok (.invokestatic 11, 3) := by decide +kernel
theorem dX2_cooled_8 : decode cX2_cooled 8 = .ok (.ireturn, 1) := by decide +kernel
theorem dX2_slopped_0 : decode cX2_slopped 0 = .ok (.aload_n 0, 1) := by decide +kernel
theorem dX2_slopped_1 : decode cX2_slopped 1 = .ok (.iload_n 1, 1) := by decide +kernel
theorem dX2_slopped_2 : decode cX2_slopped 2 = .ok (.invokespecial 16, 3) := by decide +kernel
theorem dX2_slopped_5 : decode cX2_slopped 5 = .ok (.iconst 1, 1) := by decide +kernel
theorem dX2_slopped_6 : decode cX2_slopped 6 = .ok (.iadd, 1) := by decide +kernel
theorem dX2_slopped_7 : decode cX2_slopped 7 = .ok (.ireturn, 1) := by decide +kernel
theorem dX4_init_0 : decode cX4_init 0 = .ok (.aload_n 0, 1) := by decide +kernel
theorem dX4_init_1 : decode cX4_init 1 = .ok (.invokespecial 1, 3) := by decide +kernel
theorem dX4_init_4 : decode cX4_init 4 = .ok (.return_, 1) := by decide +kernel
theorem dX4_cooled_0 : decode cX4_cooled 0 = .ok (.aload_n 0, 1) := by decide +kernel
theorem dX4_cooled_1 : decode cX4_cooled 1 = .ok (.iload_n 1, 1) := by decide +kernel
theorem dX4_cooled_2 : decode cX4_cooled 2 = .ok (.invokespecial 7, 3) := by decide +kernel
theorem dX4_cooled_5 : decode cX4_cooled 5 = .ok (.invokestatic 11, 3) := by decide +kernel
theorem dX4_cooled_8 : decode cX4_cooled 8 = .ok (.ireturn, 1) := by decide +kernel
theorem dX4_underLid_0 : decode cX4_underLid 0 = .ok (.iload_n 0, 1) := by decide +kernel
theorem dX4_underLid_1 : decode cX4_underLid 1 = .ok (.iconst 2, 1) := by decide +kernel
theorem dX4_underLid_2 : decode cX4_underLid 2 = .ok (.idiv, 1) := by decide +kernel
theorem dX4_underLid_3 : decode cX4_underLid 3 = .ok (.ireturn, 1) := by decide +kernel
theorem dX5_init_0 : decode cX5_init 0 = .ok (.aload_n 0, 1) := by decide +kernel
theorem dX5_init_1 : decode cX5_init 1 = .ok (.invokespecial 3, 3) := by decide +kernel
theorem dX5_init_4 : decode cX5_init 4 = .ok (.aload_n 0, 1) := by decide +kernel
theorem dX5_init_5 : decode cX5_init 5 = .ok (.bipush 6, 2) := by decide +kernel
theorem dX5_init_7 : decode cX5_init 7 = .ok (.newarray .int, 2) := by decide +kernel
theorem dX5_init_9 : decode cX5_init 9 = .ok (.putfield 9, 3) := by decide +kernel
theorem dX5_init_12 : decode cX5_init 12 = .ok (.return_, 1) := by decide +kernel
theorem dX5_start_0 : decode cX5_start 0 = .ok (.aload_n 0, 1) := by decide +kernel
theorem dX5_start_1 : decode cX5_start 1 = .ok (.iload_n 1, 1) := by decide +kernel
theorem dX5_start_2 : decode cX5_start 2 = .ok (.putfield 15, 3) := by decide +kernel
theorem dX5_start_5 : decode cX5_start 5 = .ok (.iconst 0, 1) := by decide +kernel
theorem dX5_start_6 : decode cX5_start 6 = .ok (.istore_n 2, 1) := by decide +kernel
theorem dX5_start_7 : decode cX5_start 7 = .ok (.iload_n 2, 1) := by decide +kernel
theorem dX5_start_8 : decode cX5_start 8 = .ok (.aload_n 0, 1) := by decide +kernel
theorem dX5_start_9 : decode cX5_start 9 = .ok (.getfield 15, 3) := by decide +kernel
theorem dX5_start_12 : decode cX5_start 12 = .ok (.if_icmp .ge 16, 3) := by decide +kernel
theorem dX5_start_15 : decode cX5_start 15 = .ok (.aload_n 0, 1) := by decide +kernel
theorem dX5_start_16 : decode cX5_start 16 = .ok (.getfield 9, 3) := by decide +kernel
theorem dX5_start_19 : decode cX5_start 19 = .ok (.iload_n 2, 1) := by decide +kernel
theorem dX5_start_20 : decode cX5_start 20 = .ok (.iload_n 2, 1) := by decide +kernel
theorem dX5_start_21 : decode cX5_start 21 = .ok (.iastore, 1) := by decide +kernel
theorem dX5_start_22 : decode cX5_start 22 = .ok (.iinc 2 1, 3) := by decide +kernel
theorem dX5_start_25 : decode cX5_start 25 = .ok (.goto (-18), 3) := by decide +kernel
theorem dX5_start_28 : decode cX5_start 28 = .ok (.return_, 1) := by decide +kernel
theorem dX5_advance_0 : decode cX5_advance 0 = .ok (.aload_n 0, 1) := by decide +kernel
theorem dX5_advance_1 : decode cX5_advance 1 = .ok (.getfield 15, 3) := by decide +kernel
theorem dX5_advance_4 : decode cX5_advance 4 = .ok (.iconst 2, 1) := by decide +kernel
theorem dX5_advance_5 : decode cX5_advance 5 = .ok (.isub, 1) := by decide +kernel
theorem dX5_advance_6 : decode cX5_advance 6 = .ok (.istore_n 1, 1) := by decide +kernel
theorem dX5_advance_7 : decode cX5_advance 7 = .ok (.iload_n 1, 1) := by decide +kernel
theorem dX5_advance_8 : decode cX5_advance 8 = .ok (.ifCond .lt 26, 3) := by decide +kernel
theorem dX5_advance_11 : decode cX5_advance 11 = .ok (.aload_n 0, 1) := by decide +kernel
theorem dX5_advance_12 : decode cX5_advance 12 = .ok (.getfield 9, 3) := by decide +kernel
theorem dX5_advance_15 : decode cX5_advance 15 = .ok (.iload_n 1, 1) := by decide +kernel
theorem dX5_advance_16 : decode cX5_advance 16 = .ok (.iaload, 1) := by decide +kernel
theorem dX5_advance_17 : decode cX5_advance 17 = .ok (.aload_n 0, 1) := by decide +kernel
theorem dX5_advance_18 : decode cX5_advance 18 = .ok (.getfield 9, 3) := by decide +kernel
theorem dX5_advance_21 : decode cX5_advance 21 = .ok (.iload_n 1, 1) := by decide +kernel
theorem dX5_advance_22 : decode cX5_advance 22 = .ok (.iconst 1, 1) := by decide +kernel
theorem dX5_advance_23 : decode cX5_advance 23 = .ok (.iadd, 1) := by decide +kernel
theorem dX5_advance_24 : decode cX5_advance 24 = .ok (.iaload, 1) := by decide +kernel
theorem dX5_advance_25 : decode cX5_advance 25 = .ok (.if_icmp .le 9, 3) := by decide +kernel
theorem dX5_advance_28 : decode cX5_advance 28 = .ok (.iinc 1 (-1), 3) := by decide +kernel
theorem dX5_advance_31 : decode cX5_advance 31 = .ok (.goto (-24), 3) := by decide +kernel
theorem dX5_advance_34 : decode cX5_advance 34 = .ok (.iload_n 1, 1) := by decide +kernel
theorem dX5_advance_35 : decode cX5_advance 35 = .ok (.ifCond .ge 5, 3) := by decide +kernel
theorem dX5_advance_38 : decode cX5_advance 38 = .ok (.iconst 0, 1) := by decide +kernel
theorem dX5_advance_39 : decode cX5_advance 39 = .ok (.ireturn, 1) := by decide +kernel
theorem dX5_advance_40 : decode cX5_advance 40 = .ok (.aload_n 0, 1) := by decide +kernel
theorem dX5_advance_41 : decode cX5_advance 41 = .ok (.getfield 15, 3) := by decide +kernel
theorem dX5_advance_44 : decode cX5_advance 44 = .ok (.iconst 1, 1) := by decide +kernel
theorem dX5_advance_45 : decode cX5_advance 45 = .ok (.isub, 1) := by decide +kernel
theorem dX5_advance_46 : decode cX5_advance 46 = .ok (.istore_n 2, 1) := by decide +kernel
theorem dX5_advance_47 : decode cX5_advance 47 = .ok (.iload_n 2, 1) := by decide +kernel
theorem dX5_advance_48 : decode cX5_advance 48 = .ok (.iload_n 1, 1) := by decide +kernel
theorem dX5_advance_49 : decode cX5_advance 49 = .ok (.if_icmp .le 24, 3) := by decide +kernel
theorem dX5_advance_52 : decode cX5_advance 52 = .ok (.aload_n 0, 1) := by decide +kernel
theorem dX5_advance_53 : decode cX5_advance 53 = .ok (.getfield 9, 3) := by decide +kernel
theorem dX5_advance_56 : decode cX5_advance 56 = .ok (.iload_n 2, 1) := by decide +kernel
theorem dX5_advance_57 : decode cX5_advance 57 = .ok (.iaload, 1) := by decide +kernel
theorem dX5_advance_58 : decode cX5_advance 58 = .ok (.aload_n 0, 1) := by decide +kernel
theorem dX5_advance_59 : decode cX5_advance 59 = .ok (.getfield 9, 3) := by decide +kernel
theorem dX5_advance_62 : decode cX5_advance 62 = .ok (.iload_n 1, 1) := by decide +kernel
theorem dX5_advance_63 : decode cX5_advance 63 = .ok (.iaload, 1) := by decide +kernel
theorem dX5_advance_64 : decode cX5_advance 64 = .ok (.if_icmp .ge 9, 3) := by decide +kernel
theorem dX5_advance_67 : decode cX5_advance 67 = .ok (.iinc 2 (-1), 3) := by decide +kernel
theorem dX5_advance_70 : decode cX5_advance 70 = .ok (.goto (-23), 3) := by decide +kernel
theorem dX5_advance_73 : decode cX5_advance 73 = .ok (.aload_n 0, 1) := by decide +kernel
theorem dX5_advance_74 : decode cX5_advance 74 = .ok (.iload_n 1, 1) := by decide +kernel
theorem dX5_advance_75 : decode cX5_advance 75 = .ok (.iload_n 2, 1) := by decide +kernel
theorem dX5_advance_76 : decode cX5_advance 76 = .ok (.invokevirtual 19, 3) := by decide +kernel
theorem dX5_advance_79 : decode cX5_advance 79 = .ok (.iload_n 1, 1) := by decide +kernel
theorem dX5_advance_80 : decode cX5_advance 80 = .ok (.iconst 1, 1) := by decide +kernel
theorem dX5_advance_81 : decode cX5_advance 81 = .ok (.iadd, 1) := by decide +kernel
theorem dX5_advance_82 : decode cX5_advance 82 = .ok (.istore_n 3, 1) := by decide +kernel
theorem dX5_advance_83 : decode cX5_advance 83 = .ok (.aload_n 0, 1) := by decide +kernel
theorem dX5_advance_84 : decode cX5_advance 84 = .ok (.getfield 15, 3) := by decide +kernel
theorem dX5_advance_87 : decode cX5_advance 87 = .ok (.iconst 1, 1) := by decide +kernel
theorem dX5_advance_88 : decode cX5_advance 88 = .ok (.isub, 1) := by decide +kernel
theorem dX5_advance_89 : decode cX5_advance 89 = .ok (.istore 4, 2) := by decide +kernel
theorem dX5_advance_91 : decode cX5_advance 91 = .ok (.iload_n 3, 1) := by decide +kernel
theorem dX5_advance_92 : decode cX5_advance 92 = .ok (.iload 4, 2) := by decide +kernel
theorem dX5_advance_94 : decode cX5_advance 94 = .ok (.if_icmp .ge 19, 3) := by decide +kernel
theorem dX5_advance_97 : decode cX5_advance 97 = .ok (.aload_n 0, 1) := by decide +kernel
theorem dX5_advance_98 : decode cX5_advance 98 = .ok (.iload_n 3, 1) := by decide +kernel
theorem dX5_advance_99 : decode cX5_advance 99 = .ok (.iload 4, 2) := by decide +kernel
theorem dX5_advance_101 : decode cX5_advance 101 = .ok (.invokevirtual 19, 3) := by decide +kernel
theorem dX5_advance_104 : decode cX5_advance 104 = .ok (.iinc 3 1, 3) := by decide +kernel
theorem dX5_advance_107 : decode cX5_advance 107 = .ok (.iinc 4 (-1), 3) := by decide +kernel
theorem dX5_advance_110 : decode cX5_advance 110 = .ok (.goto (-19), 3) := by decide +kernel
theorem dX5_advance_113 : decode cX5_advance 113 = .ok (.iconst 1, 1) := by decide +kernel
theorem dX5_advance_114 : decode cX5_advance 114 = .ok (.ireturn, 1) := by decide +kernel
theorem dX5_swapPlaces_0 : decode cX5_swapPlaces 0 = .ok (.aload_n 0, 1) := by decide +kernel
theorem dX5_swapPlaces_1 : decode cX5_swapPlaces 1 = .ok (.getfield 9, 3) := by decide +kernel
theorem dX5_swapPlaces_4 : decode cX5_swapPlaces 4 = .ok (.iload_n 1, 1) := by decide +kernel
theorem dX5_swapPlaces_5 : decode cX5_swapPlaces 5 = .ok (.iaload, 1) := by decide +kernel
theorem dX5_swapPlaces_6 : decode cX5_swapPlaces 6 = .ok (.istore_n 3, 1) := by decide +kernel
theorem dX5_swapPlaces_7 : decode cX5_swapPlaces 7 = .ok (.aload_n 0, 1) := by decide +kernel
theorem dX5_swapPlaces_8 : decode cX5_swapPlaces 8 = .ok (.getfield 9, 3) := by decide +kernel
theorem dX5_swapPlaces_11 : decode cX5_swapPlaces 11 = .ok (.iload_n 1, 1) := by decide +kernel
theorem dX5_swapPlaces_12 : decode cX5_swapPlaces 12 = .ok (.aload_n 0, 1) := by decide +kernel
theorem dX5_swapPlaces_13 : decode cX5_swapPlaces 13 = .ok (.getfield 9, 3) := by decide +kernel
theorem dX5_swapPlaces_16 : decode cX5_swapPlaces 16 = .ok (.iload_n 2, 1) := by decide +kernel
theorem dX5_swapPlaces_17 : decode cX5_swapPlaces 17 = .ok (.iaload, 1) := by decide +kernel
theorem dX5_swapPlaces_18 : decode cX5_swapPlaces 18 = .ok (.iastore, 1) := by decide +kernel
theorem dX5_swapPlaces_19 : decode cX5_swapPlaces 19 = .ok (.aload_n 0, 1) := by decide +kernel
theorem dX5_swapPlaces_20 : decode cX5_swapPlaces 20 = .ok (.getfield 9, 3) := by decide +kernel
theorem dX5_swapPlaces_23 : decode cX5_swapPlaces 23 = .ok (.iload_n 2, 1) := by decide +kernel
theorem dX5_swapPlaces_24 : decode cX5_swapPlaces 24 = .ok (.iload_n 3, 1) := by decide +kernel
theorem dX5_swapPlaces_25 : decode cX5_swapPlaces 25 = .ok (.iastore, 1) := by decide +kernel
theorem dX5_swapPlaces_26 : decode cX5_swapPlaces 26 = .ok (.return_, 1) := by decide +kernel
theorem dX6_init_0 : decode cX6_init 0 = .ok (.aload_n 0, 1) := by decide +kernel
theorem dX6_init_1 : decode cX6_init 1 = .ok (.invokespecial 1, 3) := by decide +kernel
theorem dX6_init_4 : decode cX6_init 4 = .ok (.return_, 1) := by decide +kernel
theorem dX6_cooled_0 : decode cX6_cooled 0 = .ok (.iload_n 1, 1) := by decide +kernel
theorem dX6_cooled_1 : decode cX6_cooled 1 = .ok (.bipush 10, 2) := by decide +kernel
theorem dX6_cooled_3 : decode cX6_cooled 3 = .ok (.idiv, 1) := by decide +kernel
theorem dX6_cooled_4 : decode cX6_cooled 4 = .ok (.ireturn, 1) := by decide +kernel
theorem dX6_slopped_0 : decode cX6_slopped 0 = .ok (.iconst 0, 1) := by decide +kernel
theorem dX6_slopped_1 : decode cX6_slopped 1 = .ok (.ireturn, 1) := by decide +kernel
theorem dX6_isAlone_0 : decode cX6_isAlone 0 = .ok (.iconst 0, 1) := by decide +kernel
theorem dX6_isAlone_1 : decode cX6_isAlone 1 = .ok (.ireturn, 1) := by decide +kernel
theorem dX7_init_0 : decode cX7_init 0 = .ok (.aload_n 0, 1) := by decide +kernel
theorem dX7_init_1 : decode cX7_init 1 = .ok (.invokespecial 1, 3) := by decide +kernel
theorem dX7_init_4 : decode cX7_init 4 = .ok (.return_, 1) := by decide +kernel
theorem dX7_cooled_0 : decode cX7_cooled 0 = .ok (.aload_n 0, 1) := by decide +kernel
theorem dX7_cooled_1 : decode cX7_cooled 1 = .ok (.iload_n 1, 1) := by decide +kernel
theorem dX7_cooled_2 : decode cX7_cooled 2 = .ok (.invokespecial 7, 3) := by decide +kernel
theorem dX7_cooled_5 : decode cX7_cooled 5 = .ok (.iconst 1, 1) := by decide +kernel
theorem dX7_cooled_6 : decode cX7_cooled 6 = .ok (.iadd, 1) := by decide +kernel
theorem dX7_cooled_7 : decode cX7_cooled 7 = .ok (.ireturn, 1) := by decide +kernel
theorem dX7_isAlone_0 : decode cX7_isAlone 0 = .ok (.iconst 1, 1) := by decide +kernel
theorem dX7_isAlone_1 : decode cX7_isAlone 1 = .ok (.ireturn, 1) := by decide +kernel
theorem dX8_init_0 : decode cX8_init 0 = .ok (.aload_n 0, 1) := by decide +kernel
theorem dX8_init_1 : decode cX8_init 1 = .ok (.invokespecial 1, 3) := by decide +kernel
theorem dX8_init_4 : decode cX8_init 4 = .ok (.return_, 1) := by decide +kernel
theorem dX8_slopped_0 : decode cX8_slopped 0 = .ok (.iload_n 1, 1) := by decide +kernel
theorem dX8_slopped_1 : decode cX8_slopped 1 = .ok (.iconst 4, 1) := by decide +kernel
theorem dX8_slopped_2 : decode cX8_slopped 2 = .ok (.imul, 1) := by decide +kernel
theorem dX8_slopped_3 : decode cX8_slopped 3 = .ok (.ireturn, 1) := by decide +kernel
abbrev mi_X5_swapPlaces : ob_MI := (yX5_swapPlaces, ob_ws yX5_swapPlaces cX5_swapPlaces 4 none, cX5_swapPlaces, 4, none, { frames := 0, cells := 0, slots := 0, locals := 0 })
theorem gf_X5_swapPlaces_9 : ob_GF mi_X5_swapPlaces 9 5 0 := ⟨RX5, TX5, 2, rfl, by decide, fun x h => List.mem_cons_of_mem _ (uw_X5 x h), List.mem_cons_of_mem _ tw_237⟩
noncomputable def f_X5_swapPlaces (σ : ob_St) (p1 : Int32) (p2 : Int32) : Option (Unit × ob_St) :=
  ob_ld σ 48 6 p1 fun v_1 =>
  ob_ld σ 48 6 p2 fun v_2 =>
  ob_sd σ 48 6 p1 v_2 fun σ3 =>
  ob_sd σ3 48 6 p2 v_1 fun σ4 =>
  some ((), σ4)
set_option maxRecDepth 100000 in
set_option maxHeartbeats 4000000 in
theorem c_X5_swapPlaces {g : ob_GT} {ad : Nat → Nat} {r : Unit} {σ' : ob_St} {σ : ob_St} {p1 : Int32} {p2 : Int32} (hf : f_X5_swapPlaces σ p1 p2 = some (r, σ')) : ob_CT g (ob_X ad) mi_X5_swapPlaces [.ref (ad 47), .int p1, .int p2] σ none σ' := by
  refine ob_ct (by decide +kernel) rfl (Nat.le_of_ble_eq_true rfl) ?_
  show ob_V g (ob_X ad) mi_X5_swapPlaces none σ' σ 0 [(0, .ref (ad 47)), (1, .int p1), (2, .int p2)] []
  refine vv_aload_n dX5_swapPlaces_0 0 rfl rfl 1 rfl ?_
  refine vv_getR dX5_swapPlaces_1 0 gf_X5_swapPlaces_9 ob_l47 rfl rfl 4 rfl ?_
  refine vv_iload_n dX5_swapPlaces_4 1 rfl rfl 5 rfl ?_
  refine vv_iald dX5_swapPlaces_5 ob_l48 rfl 6 rfl hf (fun v_1 hf => ?_)
  refine vv_istore_n dX5_swapPlaces_6 [(3, .int v_1), (0, .ref (ad 47)), (1, .int p1), (2, .int p2)] rfl (Nat.le_of_ble_eq_true rfl) rfl 7 rfl ?_
  refine vv_aload_n dX5_swapPlaces_7 1 rfl rfl 8 rfl ?_
  refine vv_getR dX5_swapPlaces_8 0 gf_X5_swapPlaces_9 ob_l47 rfl rfl 11 rfl ?_
  refine vv_iload_n dX5_swapPlaces_11 2 rfl rfl 12 rfl ?_
  refine vv_aload_n dX5_swapPlaces_12 1 rfl rfl 13 rfl ?_
  refine vv_getR dX5_swapPlaces_13 0 gf_X5_swapPlaces_9 ob_l47 rfl rfl 16 rfl ?_
  refine vv_iload_n dX5_swapPlaces_16 3 rfl rfl 17 rfl ?_
  refine vv_iald dX5_swapPlaces_17 ob_l48 rfl 18 rfl hf (fun v_2 hf => ?_)
  refine vv_iast dX5_swapPlaces_18 ob_l48 rfl 19 rfl hf (fun σ3 hf => ?_)
  refine vv_aload_n dX5_swapPlaces_19 1 rfl rfl 20 rfl ?_
  refine vv_getR dX5_swapPlaces_20 0 gf_X5_swapPlaces_9 ob_l47 rfl rfl 23 rfl ?_
  refine vv_iload_n dX5_swapPlaces_23 3 rfl rfl 24 rfl ?_
  refine vv_iload_n dX5_swapPlaces_24 0 rfl rfl 25 rfl ?_
  refine vv_iast dX5_swapPlaces_25 ob_l48 rfl 26 rfl hf (fun σ4 hf => ?_)
  exact vv_ret rfl dX5_swapPlaces_26 hf
abbrev mi_X5_start : ob_MI := (yX5_start, ob_ws yX5_start cX5_start 3 none, cX5_start, 3, none, { frames := 0, cells := 0, slots := 0, locals := 0 })
theorem pf_X5_start_15 : ob_PF mi_X5_start 15 5 1 .int := ⟨RX5, TX5, 2, tyX5, rfl, by decide, fun x h => List.mem_cons_of_mem _ (uw_X5 x h), List.mem_cons_of_mem _ tw_239, tyX5_ok, nmX5, rfl, by decide +kernel⟩
theorem gf_X5_start_15 : ob_GF mi_X5_start 15 5 1 := ⟨RX5, TX5, 2, rfl, by decide, fun x h => List.mem_cons_of_mem _ (uw_X5 x h), List.mem_cons_of_mem _ tw_239⟩
theorem gf_X5_start_9 : ob_GF mi_X5_start 9 5 0 := ⟨RX5, TX5, 2, rfl, by decide, fun x h => List.mem_cons_of_mem _ (uw_X5 x h), List.mem_cons_of_mem _ tw_237⟩
noncomputable def L_X5_start_7 : Nat → ob_St → Int32 → Option (Unit × ob_St)
  | 0, _, _ => none
  | n + 1, σ, v2 =>
    if (σ 47 1) ≤ v2 then
      some ((), σ)
    else
      ob_sd σ 48 6 v2 v2 fun σ2 =>
      L_X5_start_7 n σ2 (v2 + 1)
noncomputable def f_X5_start (σ : ob_St) (p1 : Int32) : Option (Unit × ob_St) :=
  ob_pf σ 47 1 p1 fun σ1 =>
  L_X5_start_7 1000 σ1 0
set_option maxRecDepth 100000 in
set_option maxHeartbeats 4000000 in
theorem l_X5_start_7 {g : ob_GT} {ad : Nat → Nat} {r : Unit} {σ' : ob_St} : ∀ (n : Nat) {σ : ob_St} {v2 : Int32}, L_X5_start_7 n σ v2 = some (r, σ') → ob_V g (ob_X ad) mi_X5_start none σ' σ 7 [(0, .ref (ad 47)), (2, .int v2)] [] := by
  intro n
  induction n with
  | zero => intro σ v2 hf; exact absurd hf (fun h => by cases h)
  | succ n ih =>
    intro σ v2 hf
    refine vv_iload_n dX5_start_7 1 rfl rfl 8 rfl ?_
    refine vv_aload_n dX5_start_8 0 rfl rfl 9 rfl ?_
    refine vv_getI dX5_start_9 1 gf_X5_start_15 ob_l47 rfl rfl 12 rfl ?_
    refine vv_icmp_ge dX5_start_12 28 15 rfl rfl hf (fun hf => ?_) (fun hf => ?_)
    · exact vv_ret rfl dX5_start_28 hf
    · refine vv_aload_n dX5_start_15 0 rfl rfl 16 rfl ?_
      refine vv_getR dX5_start_16 0 gf_X5_start_9 ob_l47 rfl rfl 19 rfl ?_
      refine vv_iload_n dX5_start_19 1 rfl rfl 20 rfl ?_
      refine vv_iload_n dX5_start_20 1 rfl rfl 21 rfl ?_
      refine vv_iast dX5_start_21 ob_l48 rfl 22 rfl hf (fun σ2 hf => ?_)
      refine vv_iinc dX5_start_22 (v2 + 1) 1 [(2, .int (v2 + 1)), (0, .ref (ad 47))] rfl rfl (Nat.le_of_ble_eq_true rfl) rfl 25 rfl ?_
      refine vv_goto dX5_start_25 7 rfl ?_
      refine vv_sub [1, 0] [(0, .ref (ad 47)), (2, .int (v2 + 1))] rfl ?_
      exact ih hf
set_option maxRecDepth 100000 in
set_option maxHeartbeats 4000000 in
theorem c_X5_start {g : ob_GT} {ad : Nat → Nat} {r : Unit} {σ' : ob_St} {σ : ob_St} {p1 : Int32} (hf : f_X5_start σ p1 = some (r, σ')) : ob_CT g (ob_X ad) mi_X5_start [.ref (ad 47), .int p1] σ none σ' := by
  refine ob_ct (by decide +kernel) rfl (Nat.le_of_ble_eq_true rfl) ?_
  show ob_V g (ob_X ad) mi_X5_start none σ' σ 0 [(0, .ref (ad 47)), (1, .int p1)] []
  refine vv_aload_n dX5_start_0 0 rfl rfl 1 rfl ?_
  refine vv_iload_n dX5_start_1 1 rfl rfl 2 rfl ?_
  refine vv_putI dX5_start_2 1 pf_X5_start_15 ob_l47 rfl rfl (ob_fit_int _) 5 rfl hf (fun σ1 hf => ?_)
  refine vv_iconst dX5_start_5 0 rfl 6 rfl ?_
  refine vv_istore_n dX5_start_6 [(2, .int 0), (0, .ref (ad 47)), (1, .int p1)] rfl (Nat.le_of_ble_eq_true rfl) rfl 7 rfl ?_
  refine vv_sub [1, 0] [(0, .ref (ad 47)), (2, .int 0)] rfl ?_
  exact l_X5_start_7 1000 hf
abbrev mi_X5_advance : ob_MI := (yX5_advance, ob_ws yX5_advance cX5_advance 5 (some .boolean), cX5_advance, 5, (some .boolean), { frames := 1, cells := 0, slots := 0, locals := 23 })
theorem gf_X5_advance_15 : ob_GF mi_X5_advance 15 5 1 := ⟨RX5, TX5, 2, rfl, by decide, fun x h => List.mem_cons_of_mem _ (uw_X5 x h), List.mem_cons_of_mem _ tw_239⟩
theorem cv_X5_advance_19 : ob_CV mi_X5_advance mi_X5_swapPlaces 19 RX5 2 := ob_cvI rfl rfl tw_653 tw_655 tw_13 tw_58 tw_656 ⟨rfl, rfl⟩ ⟨rfl, by decide +kernel, by decide +kernel, by decide +kernel⟩ ⟨Nat.le_of_ble_eq_true rfl, Nat.le_of_ble_eq_true rfl⟩
theorem gf_X5_advance_9 : ob_GF mi_X5_advance 9 5 0 := ⟨RX5, TX5, 2, rfl, by decide, fun x h => List.mem_cons_of_mem _ (uw_X5 x h), List.mem_cons_of_mem _ tw_237⟩
noncomputable def L_X5_advance_91 : Nat → ob_St → Int32 → Int32 → Option (Int32 × ob_St)
  | 0, _, _, _ => none
  | n + 1, σ, v3, v4 =>
    if v4 ≤ v3 then
      ob_rb 1 σ
    else
      ob_bd (f_X5_swapPlaces σ v3 v4) fun _ σ8 =>
      L_X5_advance_91 n σ8 (v3 + 1) (v4 + (-1))
noncomputable def J_X5_advance_73_47 (rec : ob_St → Int32 → Int32 → Option (Int32 × ob_St)) (σ : ob_St) (v1 : Int32) (v2 : Int32) : Option (Int32 × ob_St) :=
  ob_bd (f_X5_swapPlaces σ v1 v2) fun _ σ4 =>
  ob_nm (v1 + 1) fun v_5 =>
  ob_nm ((σ4 47 1) - 1) fun v_6 =>
  L_X5_advance_91 1000 σ4 v_5 v_6
noncomputable def L_X5_advance_47 : Nat → ob_St → Int32 → Int32 → Option (Int32 × ob_St)
  | 0, _, _, _ => none
  | n + 1, σ, v1, v2 =>
    if v2 ≤ v1 then
      J_X5_advance_73_47 (fun σ v1 v2 => L_X5_advance_47 n σ v1 v2) σ v1 v2
    else
      ob_ld σ 48 6 v2 fun v_9 =>
      ob_ld σ 48 6 v1 fun v_10 =>
      if v_10 ≤ v_9 then
        J_X5_advance_73_47 (fun σ v1 v2 => L_X5_advance_47 n σ v1 v2) σ v1 v2
      else
        L_X5_advance_47 n σ v1 (v2 + (-1))
noncomputable def J_X5_advance_34_7 (rec : ob_St → Int32 → Option (Int32 × ob_St)) (σ : ob_St) (v1 : Int32) : Option (Int32 × ob_St) :=
  if (0 : Int32) ≤ v1 then
    ob_nm ((σ 47 1) - 1) fun v_2 =>
    L_X5_advance_47 1000 σ v1 v_2
  else
    ob_rb 0 σ
noncomputable def L_X5_advance_7 : Nat → ob_St → Int32 → Option (Int32 × ob_St)
  | 0, _, _ => none
  | n + 1, σ, v1 =>
    if v1 < 0 then
      J_X5_advance_34_7 (fun σ v1 => L_X5_advance_7 n σ v1) σ v1
    else
      ob_ld σ 48 6 v1 fun v_11 =>
      ob_ld σ 48 6 (v1 + 1) fun v_12 =>
      if v_11 ≤ v_12 then
        J_X5_advance_34_7 (fun σ v1 => L_X5_advance_7 n σ v1) σ v1
      else
        L_X5_advance_7 n σ (v1 + (-1))
noncomputable def f_X5_advance (σ : ob_St) : Option (Int32 × ob_St) :=
  ob_nm ((σ 47 1) - 2) fun v_1 =>
  L_X5_advance_7 1000 σ v_1
set_option maxRecDepth 100000 in
set_option maxHeartbeats 4000000 in
theorem l_X5_advance_91 {g : ob_GT} {ad : Nat → Nat} {r : Int32} {σ' : ob_St} : ∀ (n : Nat) {σ : ob_St} {v3 : Int32} {v4 : Int32}, L_X5_advance_91 n σ v3 v4 = some (r, σ') → ob_V g (ob_X ad) mi_X5_advance (some (.int r)) σ' σ 91 [(0, .ref (ad 47)), (3, .int v3), (4, .int v4)] [] := by
  intro n
  induction n with
  | zero => intro σ v3 v4 hf; exact absurd hf (fun h => by cases h)
  | succ n ih =>
    intro σ v3 v4 hf
    refine vv_iload_n dX5_advance_91 1 rfl rfl 92 rfl ?_
    refine vv_iload dX5_advance_92 2 rfl 94 rfl ?_
    refine vv_icmp_ge dX5_advance_94 113 97 rfl rfl hf (fun hf => ?_) (fun hf => ?_)
    · refine vv_iconst dX5_advance_113 1 rfl 114 rfl ?_
      exact vv_iretz rfl dX5_advance_114 hf
    · refine vv_aload_n dX5_advance_97 0 rfl rfl 98 rfl ?_
      refine vv_iload_n dX5_advance_98 1 rfl rfl 99 rfl ?_
      refine vv_iload dX5_advance_99 2 rfl 101 rfl ?_
      refine vv_callVu [.int v3, .int v4] [] (fun _ _ h => c_X5_swapPlaces h) (ob_rec ob_l47 rfl rfl) cv_X5_advance_19 rfl (Nat.le_of_ble_eq_true rfl) 104 rfl dX5_advance_101 rfl hf (fun _ σ8 hf => ?_)
      refine vv_iinc dX5_advance_104 (v3 + 1) 1 [(3, .int (v3 + 1)), (0, .ref (ad 47)), (4, .int v4)] rfl rfl (Nat.le_of_ble_eq_true rfl) rfl 107 rfl ?_
      refine vv_iinc dX5_advance_107 (v4 + (-1)) 2 [(4, .int (v4 + (-1))), (3, .int (v3 + 1)), (0, .ref (ad 47))] rfl rfl (Nat.le_of_ble_eq_true rfl) rfl 110 rfl ?_
      refine vv_goto dX5_advance_110 91 rfl ?_
      refine vv_sub [2, 1, 0] [(0, .ref (ad 47)), (3, .int (v3 + 1)), (4, .int (v4 + (-1)))] rfl ?_
      exact ih hf
set_option maxRecDepth 100000 in
set_option maxHeartbeats 4000000 in
theorem j_X5_advance_73_47 {g : ob_GT} {ad : Nat → Nat} {r : Int32} {σ' : ob_St} {σ : ob_St} {v1 : Int32} {v2 : Int32} {rec : ob_St → Int32 → Int32 → Option (Int32 × ob_St)} (hrec : ∀ {σ : ob_St} {v1 : Int32} {v2 : Int32}, rec σ v1 v2 = some (r, σ') → ob_V g (ob_X ad) mi_X5_advance (some (.int r)) σ' σ 47 [(0, .ref (ad 47)), (1, .int v1), (2, .int v2)] []) (hf : J_X5_advance_73_47 rec σ v1 v2 = some (r, σ')) : ob_V g (ob_X ad) mi_X5_advance (some (.int r)) σ' σ 73 [(0, .ref (ad 47)), (1, .int v1), (2, .int v2)] [] := by
  refine vv_aload_n dX5_advance_73 0 rfl rfl 74 rfl ?_
  refine vv_iload_n dX5_advance_74 1 rfl rfl 75 rfl ?_
  refine vv_iload_n dX5_advance_75 2 rfl rfl 76 rfl ?_
  refine vv_callVu [.int v1, .int v2] [] (fun _ _ h => c_X5_swapPlaces h) (ob_rec ob_l47 rfl rfl) cv_X5_advance_19 rfl (Nat.le_of_ble_eq_true rfl) 79 rfl dX5_advance_76 rfl hf (fun _ σ4 hf => ?_)
  refine vv_iload_n dX5_advance_79 1 rfl rfl 80 rfl ?_
  refine vv_iconst dX5_advance_80 1 rfl 81 rfl ?_
  refine vv_iadd dX5_advance_81 82 rfl ?_
  refine vv_nm hf (fun v_5 hf => ?_)
  refine vv_istore_n dX5_advance_82 [(3, .int v_5), (0, .ref (ad 47)), (1, .int v1), (2, .int v2)] rfl (Nat.le_of_ble_eq_true rfl) rfl 83 rfl ?_
  refine vv_aload_n dX5_advance_83 1 rfl rfl 84 rfl ?_
  refine vv_getI dX5_advance_84 1 gf_X5_advance_15 ob_l47 rfl rfl 87 rfl ?_
  refine vv_iconst dX5_advance_87 1 rfl 88 rfl ?_
  refine vv_isub dX5_advance_88 89 rfl ?_
  refine vv_nm hf (fun v_6 hf => ?_)
  refine vv_istore dX5_advance_89 [(4, .int v_6), (3, .int v_5), (0, .ref (ad 47)), (1, .int v1), (2, .int v2)] (Nat.le_of_ble_eq_true rfl) rfl 91 rfl ?_
  refine vv_sub [2, 1, 0] [(0, .ref (ad 47)), (3, .int v_5), (4, .int v_6)] rfl ?_
  exact l_X5_advance_91 1000 hf
set_option maxRecDepth 100000 in
set_option maxHeartbeats 4000000 in
theorem l_X5_advance_47 {g : ob_GT} {ad : Nat → Nat} {r : Int32} {σ' : ob_St} : ∀ (n : Nat) {σ : ob_St} {v1 : Int32} {v2 : Int32}, L_X5_advance_47 n σ v1 v2 = some (r, σ') → ob_V g (ob_X ad) mi_X5_advance (some (.int r)) σ' σ 47 [(0, .ref (ad 47)), (1, .int v1), (2, .int v2)] [] := by
  intro n
  induction n with
  | zero => intro σ v1 v2 hf; exact absurd hf (fun h => by cases h)
  | succ n ih =>
    intro σ v1 v2 hf
    refine vv_iload_n dX5_advance_47 2 rfl rfl 48 rfl ?_
    refine vv_iload_n dX5_advance_48 1 rfl rfl 49 rfl ?_
    refine vv_icmp_le dX5_advance_49 73 52 rfl rfl hf (fun hf => ?_) (fun hf => ?_)
    · exact j_X5_advance_73_47 ih hf
    · refine vv_aload_n dX5_advance_52 0 rfl rfl 53 rfl ?_
      refine vv_getR dX5_advance_53 0 gf_X5_advance_9 ob_l47 rfl rfl 56 rfl ?_
      refine vv_iload_n dX5_advance_56 2 rfl rfl 57 rfl ?_
      refine vv_iald dX5_advance_57 ob_l48 rfl 58 rfl hf (fun v_9 hf => ?_)
      refine vv_aload_n dX5_advance_58 0 rfl rfl 59 rfl ?_
      refine vv_getR dX5_advance_59 0 gf_X5_advance_9 ob_l47 rfl rfl 62 rfl ?_
      refine vv_iload_n dX5_advance_62 1 rfl rfl 63 rfl ?_
      refine vv_iald dX5_advance_63 ob_l48 rfl 64 rfl hf (fun v_10 hf => ?_)
      refine vv_icmp_ge dX5_advance_64 73 67 rfl rfl hf (fun hf => ?_) (fun hf => ?_)
      · exact j_X5_advance_73_47 ih hf
      · refine vv_iinc dX5_advance_67 (v2 + (-1)) 2 [(2, .int (v2 + (-1))), (0, .ref (ad 47)), (1, .int v1)] rfl rfl (Nat.le_of_ble_eq_true rfl) rfl 70 rfl ?_
        refine vv_goto dX5_advance_70 47 rfl ?_
        refine vv_sub [1, 2, 0] [(0, .ref (ad 47)), (1, .int v1), (2, .int (v2 + (-1)))] rfl ?_
        exact ih hf
set_option maxRecDepth 100000 in
set_option maxHeartbeats 4000000 in
theorem j_X5_advance_34_7 {g : ob_GT} {ad : Nat → Nat} {r : Int32} {σ' : ob_St} {σ : ob_St} {v1 : Int32} {rec : ob_St → Int32 → Option (Int32 × ob_St)} (hrec : ∀ {σ : ob_St} {v1 : Int32}, rec σ v1 = some (r, σ') → ob_V g (ob_X ad) mi_X5_advance (some (.int r)) σ' σ 7 [(0, .ref (ad 47)), (1, .int v1)] []) (hf : J_X5_advance_34_7 rec σ v1 = some (r, σ')) : ob_V g (ob_X ad) mi_X5_advance (some (.int r)) σ' σ 34 [(0, .ref (ad 47)), (1, .int v1)] [] := by
  refine vv_iload_n dX5_advance_34 1 rfl rfl 35 rfl ?_
  refine vv_if_ge dX5_advance_35 40 38 rfl rfl hf (fun hf => ?_) (fun hf => ?_)
  · refine vv_aload_n dX5_advance_40 0 rfl rfl 41 rfl ?_
    refine vv_getI dX5_advance_41 1 gf_X5_advance_15 ob_l47 rfl rfl 44 rfl ?_
    refine vv_iconst dX5_advance_44 1 rfl 45 rfl ?_
    refine vv_isub dX5_advance_45 46 rfl ?_
    refine vv_nm hf (fun v_2 hf => ?_)
    refine vv_istore_n dX5_advance_46 [(2, .int v_2), (0, .ref (ad 47)), (1, .int v1)] rfl (Nat.le_of_ble_eq_true rfl) rfl 47 rfl ?_
    refine vv_sub [1, 2, 0] [(0, .ref (ad 47)), (1, .int v1), (2, .int v_2)] rfl ?_
    exact l_X5_advance_47 1000 hf
  · refine vv_iconst dX5_advance_38 0 rfl 39 rfl ?_
    exact vv_iretz rfl dX5_advance_39 hf
set_option maxRecDepth 100000 in
set_option maxHeartbeats 4000000 in
theorem l_X5_advance_7 {g : ob_GT} {ad : Nat → Nat} {r : Int32} {σ' : ob_St} : ∀ (n : Nat) {σ : ob_St} {v1 : Int32}, L_X5_advance_7 n σ v1 = some (r, σ') → ob_V g (ob_X ad) mi_X5_advance (some (.int r)) σ' σ 7 [(0, .ref (ad 47)), (1, .int v1)] [] := by
  intro n
  induction n with
  | zero => intro σ v1 hf; exact absurd hf (fun h => by cases h)
  | succ n ih =>
    intro σ v1 hf
    refine vv_iload_n dX5_advance_7 1 rfl rfl 8 rfl ?_
    refine vv_if_lt dX5_advance_8 34 11 rfl rfl hf (fun hf => ?_) (fun hf => ?_)
    · exact j_X5_advance_34_7 ih hf
    · refine vv_aload_n dX5_advance_11 0 rfl rfl 12 rfl ?_
      refine vv_getR dX5_advance_12 0 gf_X5_advance_9 ob_l47 rfl rfl 15 rfl ?_
      refine vv_iload_n dX5_advance_15 1 rfl rfl 16 rfl ?_
      refine vv_iald dX5_advance_16 ob_l48 rfl 17 rfl hf (fun v_11 hf => ?_)
      refine vv_aload_n dX5_advance_17 0 rfl rfl 18 rfl ?_
      refine vv_getR dX5_advance_18 0 gf_X5_advance_9 ob_l47 rfl rfl 21 rfl ?_
      refine vv_iload_n dX5_advance_21 1 rfl rfl 22 rfl ?_
      refine vv_iconst dX5_advance_22 1 rfl 23 rfl ?_
      refine vv_iadd dX5_advance_23 24 rfl ?_
      refine vv_iald dX5_advance_24 ob_l48 rfl 25 rfl hf (fun v_12 hf => ?_)
      refine vv_icmp_le dX5_advance_25 34 28 rfl rfl hf (fun hf => ?_) (fun hf => ?_)
      · exact j_X5_advance_34_7 ih hf
      · refine vv_iinc dX5_advance_28 (v1 + (-1)) 1 [(1, .int (v1 + (-1))), (0, .ref (ad 47))] rfl rfl (Nat.le_of_ble_eq_true rfl) rfl 31 rfl ?_
        refine vv_goto dX5_advance_31 7 rfl ?_
        refine vv_sub [1, 0] [(0, .ref (ad 47)), (1, .int (v1 + (-1)))] rfl ?_
        exact ih hf
set_option maxRecDepth 100000 in
set_option maxHeartbeats 4000000 in
theorem c_X5_advance {g : ob_GT} {ad : Nat → Nat} {r : Int32} {σ' : ob_St} {σ : ob_St} (hf : f_X5_advance σ = some (r, σ')) : ob_CT g (ob_X ad) mi_X5_advance [.ref (ad 47)] σ (some (.int r)) σ' := by
  refine ob_ct (by decide +kernel) rfl (Nat.le_of_ble_eq_true rfl) ?_
  show ob_V g (ob_X ad) mi_X5_advance (some (.int r)) σ' σ 0 [(0, .ref (ad 47))] []
  refine vv_aload_n dX5_advance_0 0 rfl rfl 1 rfl ?_
  refine vv_getI dX5_advance_1 1 gf_X5_advance_15 ob_l47 rfl rfl 4 rfl ?_
  refine vv_iconst dX5_advance_4 2 rfl 5 rfl ?_
  refine vv_isub dX5_advance_5 6 rfl ?_
  refine vv_nm hf (fun v_1 hf => ?_)
  refine vv_istore_n dX5_advance_6 [(1, .int v_1), (0, .ref (ad 47))] rfl (Nat.le_of_ble_eq_true rfl) rfl 7 rfl ?_
  refine vv_sub [1, 0] [(0, .ref (ad 47)), (1, .int v_1)] rfl ?_
  exact l_X5_advance_7 1000 hf
abbrev mi_X6_cooled : ob_MI := (yX6_cooled, ob_ws yX6_cooled cX6_cooled 2 (some .int), cX6_cooled, 2, (some .int), { frames := 0, cells := 0, slots := 0, locals := 0 })
noncomputable def f_X6_cooled (σ : ob_St) (p1 : Int32) : Option (Int32 × ob_St) :=
  some ((p1 / 10), σ)
set_option maxRecDepth 100000 in
set_option maxHeartbeats 4000000 in
theorem c_X6_cooled {g : ob_GT} {ad : Nat → Nat} {a0 : Nat} {r : Int32} {σ' : ob_St} {σ : ob_St} {p1 : Int32} (hf : f_X6_cooled σ p1 = some (r, σ')) : ob_CT g (ob_X ad) mi_X6_cooled [.ref a0, .int p1] σ (some (.int r)) σ' := by
  refine ob_ct (by decide +kernel) rfl (Nat.le_of_ble_eq_true rfl) ?_
  show ob_V g (ob_X ad) mi_X6_cooled (some (.int r)) σ' σ 0 [(0, .ref a0), (1, .int p1)] []
  refine vv_iload_n dX6_cooled_0 1 rfl rfl 1 rfl ?_
  refine vv_bipush dX6_cooled_1 10 rfl 3 rfl ?_
  refine vv_idiv dX6_cooled_3 (by decide) 4 rfl ?_
  exact vv_ireti rfl dX6_cooled_4 hf
abbrev mi_X6_slopped : ob_MI := (yX6_slopped, ob_ws yX6_slopped cX6_slopped 2 (some .int), cX6_slopped, 2, (some .int), { frames := 0, cells := 0, slots := 0, locals := 0 })
noncomputable def f_X6_slopped (σ : ob_St) (p1 : Int32) : Option (Int32 × ob_St) :=
  some (0, σ)
set_option maxRecDepth 100000 in
set_option maxHeartbeats 4000000 in
theorem c_X6_slopped {g : ob_GT} {ad : Nat → Nat} {a0 : Nat} {r : Int32} {σ' : ob_St} {σ : ob_St} {p1 : Int32} (hf : f_X6_slopped σ p1 = some (r, σ')) : ob_CT g (ob_X ad) mi_X6_slopped [.ref a0, .int p1] σ (some (.int r)) σ' := by
  refine ob_ct (by decide +kernel) rfl (Nat.le_of_ble_eq_true rfl) ?_
  show ob_V g (ob_X ad) mi_X6_slopped (some (.int r)) σ' σ 0 [(0, .ref a0), (1, .int p1)] []
  refine vv_iconst dX6_slopped_0 0 rfl 1 rfl ?_
  exact vv_ireti rfl dX6_slopped_1 hf
abbrev mi_X6_isAlone : ob_MI := (yX6_isAlone, ob_ws yX6_isAlone cX6_isAlone 1 (some .boolean), cX6_isAlone, 1, (some .boolean), { frames := 0, cells := 0, slots := 0, locals := 0 })
noncomputable def f_X6_isAlone (σ : ob_St) : Option (Int32 × ob_St) :=
  ob_rb 0 σ
set_option maxRecDepth 100000 in
set_option maxHeartbeats 4000000 in
theorem c_X6_isAlone {g : ob_GT} {ad : Nat → Nat} {a0 : Nat} {r : Int32} {σ' : ob_St} {σ : ob_St} (hf : f_X6_isAlone σ = some (r, σ')) : ob_CT g (ob_X ad) mi_X6_isAlone [.ref a0] σ (some (.int r)) σ' := by
  refine ob_ct (by decide +kernel) rfl (Nat.le_of_ble_eq_true rfl) ?_
  show ob_V g (ob_X ad) mi_X6_isAlone (some (.int r)) σ' σ 0 [(0, .ref a0)] []
  refine vv_iconst dX6_isAlone_0 0 rfl 1 rfl ?_
  exact vv_iretz rfl dX6_isAlone_1 hf
abbrev mi_X8_slopped : ob_MI := (yX8_slopped, ob_ws yX8_slopped cX8_slopped 2 (some .int), cX8_slopped, 2, (some .int), { frames := 0, cells := 0, slots := 0, locals := 0 })
noncomputable def f_X8_slopped (σ : ob_St) (p1 : Int32) : Option (Int32 × ob_St) :=
  some ((p1 * 4), σ)
set_option maxRecDepth 100000 in
set_option maxHeartbeats 4000000 in
theorem c_X8_slopped {g : ob_GT} {ad : Nat → Nat} {a0 : Nat} {r : Int32} {σ' : ob_St} {σ : ob_St} {p1 : Int32} (hf : f_X8_slopped σ p1 = some (r, σ')) : ob_CT g (ob_X ad) mi_X8_slopped [.ref a0, .int p1] σ (some (.int r)) σ' := by
  refine ob_ct (by decide +kernel) rfl (Nat.le_of_ble_eq_true rfl) ?_
  show ob_V g (ob_X ad) mi_X8_slopped (some (.int r)) σ' σ 0 [(0, .ref a0), (1, .int p1)] []
  refine vv_iload_n dX8_slopped_0 1 rfl rfl 1 rfl ?_
  refine vv_iconst dX8_slopped_1 4 rfl 2 rfl ?_
  refine vv_imul dX8_slopped_2 3 rfl ?_
  exact vv_ireti rfl dX8_slopped_3 hf
abbrev mi_X4_underLid : ob_MI := (yX4_underLid, ob_ws yX4_underLid cX4_underLid 1 (some .int), cX4_underLid, 1, (some .int), { frames := 0, cells := 0, slots := 0, locals := 0 })
noncomputable def f_X4_underLid (σ : ob_St) (p0 : Int32) : Option (Int32 × ob_St) :=
  some ((p0 / 2), σ)
set_option maxRecDepth 100000 in
set_option maxHeartbeats 4000000 in
theorem c_X4_underLid {g : ob_GT} {ad : Nat → Nat} {r : Int32} {σ' : ob_St} {σ : ob_St} {p0 : Int32} (hf : f_X4_underLid σ p0 = some (r, σ')) : ob_CT g (ob_X ad) mi_X4_underLid [.int p0] σ (some (.int r)) σ' := by
  refine ob_ct (by decide +kernel) rfl (Nat.le_of_ble_eq_true rfl) ?_
  show ob_V g (ob_X ad) mi_X4_underLid (some (.int r)) σ' σ 0 [(0, .int p0)] []
  refine vv_iload_n dX4_underLid_0 0 rfl rfl 1 rfl ?_
  refine vv_iconst dX4_underLid_1 2 rfl 2 rfl ?_
  refine vv_idiv dX4_underLid_2 (by decide) 3 rfl ?_
  exact vv_ireti rfl dX4_underLid_3 hf
abbrev mi_X4_cooled : ob_MI := (yX4_cooled, ob_ws yX4_cooled cX4_cooled 2 (some .int), cX4_cooled, 2, (some .int), { frames := 1, cells := 0, slots := 0, locals := 21 })
theorem cs_X4_cooled_11 : ob_CS mi_X4_cooled mi_X4_underLid 11 1 := ob_csI rfl rfl tw_602 tw_596 tw_54 tw_597 ⟨rfl, rfl⟩ ⟨by decide +kernel, by decide +kernel, by decide +kernel⟩ ⟨Nat.le_of_ble_eq_true rfl, Nat.le_of_ble_eq_true rfl⟩
noncomputable def f_X4_cooled (σ : ob_St) (p1 : Int32) : Option (Int32 × ob_St) :=
  ob_bd (f_X6_cooled σ p1) fun r1 σ2 =>
  ob_bd (f_X4_underLid σ2 r1) fun r3 σ4 =>
  some (r3, σ4)
set_option maxRecDepth 100000 in
set_option maxHeartbeats 4000000 in
theorem c_X4_cooled {g : ob_GT} {ad : Nat → Nat} {r : Int32} {σ' : ob_St} {σ : ob_St} {p1 : Int32} (hf : f_X4_cooled σ p1 = some (r, σ')) : ob_CT g (ob_X ad) mi_X4_cooled [.ref (ad 34), .int p1] σ (some (.int r)) σ' := by
  refine ob_ct (by decide +kernel) rfl (Nat.le_of_ble_eq_true rfl) ?_
  show ob_V g (ob_X ad) mi_X4_cooled (some (.int r)) σ' σ 0 [(0, .ref (ad 34)), (1, .int p1)] []
  refine vv_aload_n dX4_cooled_0 0 rfl rfl 1 rfl ?_
  refine vv_iload_n dX4_cooled_1 1 rfl rfl 2 rfl ?_
  refine vv_callP (n := 1) (ci := 4) (T := TX4) (N := 0) dX4_cooled_2 [.int p1] [] (fun _ _ h => c_X6_cooled h) (ob_rec ob_l34 rfl rfl) rfl rfl rfl tw_601 tw_585 tw_167 tw_583 tw_52 tw_608 rfl (Or.inl rfl) ⟨rfl, rfl⟩ ⟨by decide +kernel, by decide +kernel⟩ ⟨Nat.le_of_ble_eq_true rfl, Nat.le_of_ble_eq_true rfl⟩ rfl (Nat.le_of_ble_eq_true rfl) 5 rfl rfl hf (fun r1 σ2 hf => ?_)
  refine vv_callS [.int r1] [] (fun _ _ h => c_X4_underLid h) cs_X4_cooled_11 rfl (Nat.le_of_ble_eq_true rfl) 8 rfl dX4_cooled_5 rfl hf (fun r3 σ4 hf => ?_)
  exact vv_ireti rfl dX4_cooled_8 hf
abbrev mi_X0_cooled : ob_MI := (yX0_cooled, ob_ws yX0_cooled cX0_cooled 2 (some .int), cX0_cooled, 2, (some .int), { frames := 0, cells := 0, slots := 0, locals := 0 })
noncomputable def f_X0_cooled (σ : ob_St) (p1 : Int32) : Option (Int32 × ob_St) :=
  some (0, σ)
set_option maxRecDepth 100000 in
set_option maxHeartbeats 4000000 in
theorem c_X0_cooled {g : ob_GT} {ad : Nat → Nat} {a0 : Nat} {r : Int32} {σ' : ob_St} {σ : ob_St} {p1 : Int32} (hf : f_X0_cooled σ p1 = some (r, σ')) : ob_CT g (ob_X ad) mi_X0_cooled [.ref a0, .int p1] σ (some (.int r)) σ' := by
  refine ob_ct (by decide +kernel) rfl (Nat.le_of_ble_eq_true rfl) ?_
  show ob_V g (ob_X ad) mi_X0_cooled (some (.int r)) σ' σ 0 [(0, .ref a0), (1, .int p1)] []
  refine vv_iconst dX0_cooled_0 0 rfl 1 rfl ?_
  exact vv_ireti rfl dX0_cooled_1 hf
abbrev mi_X2_cooled : ob_MI := (yX2_cooled, ob_ws yX2_cooled cX2_cooled 2 (some .int), cX2_cooled, 2, (some .int), { frames := 1, cells := 0, slots := 0, locals := 21 })
theorem cs_X2_cooled_11 : ob_CS mi_X2_cooled mi_X4_underLid 11 1 := ob_csI rfl rfl tw_595 tw_596 tw_54 tw_597 ⟨rfl, rfl⟩ ⟨by decide +kernel, by decide +kernel, by decide +kernel⟩ ⟨Nat.le_of_ble_eq_true rfl, Nat.le_of_ble_eq_true rfl⟩
noncomputable def f_X2_cooled (σ : ob_St) (p1 : Int32) : Option (Int32 × ob_St) :=
  ob_bd (f_X6_cooled σ p1) fun r1 σ2 =>
  ob_bd (f_X4_underLid σ2 r1) fun r3 σ4 =>
  some (r3, σ4)
set_option maxRecDepth 100000 in
set_option maxHeartbeats 4000000 in
theorem c_X2_cooled {g : ob_GT} {ad : Nat → Nat} {r : Int32} {σ' : ob_St} {σ : ob_St} {p1 : Int32} (hf : f_X2_cooled σ p1 = some (r, σ')) : ob_CT g (ob_X ad) mi_X2_cooled [.ref (ad 36), .int p1] σ (some (.int r)) σ' := by
  refine ob_ct (by decide +kernel) rfl (Nat.le_of_ble_eq_true rfl) ?_
  show ob_V g (ob_X ad) mi_X2_cooled (some (.int r)) σ' σ 0 [(0, .ref (ad 36)), (1, .int p1)] []
  refine vv_aload_n dX2_cooled_0 0 rfl rfl 1 rfl ?_
  refine vv_iload_n dX2_cooled_1 1 rfl rfl 2 rfl ?_
  refine vv_callP (n := 1) (ci := 2) (T := TX2) (N := 0) dX2_cooled_2 [.int p1] [] (fun _ _ h => c_X6_cooled h) (ob_rec ob_l36 rfl rfl) rfl rfl rfl tw_592 tw_593 tw_181 tw_583 tw_52 tw_608 rfl (Or.inr tw_160) ⟨rfl, rfl⟩ ⟨by decide +kernel, by decide +kernel⟩ ⟨Nat.le_of_ble_eq_true rfl, Nat.le_of_ble_eq_true rfl⟩ rfl (Nat.le_of_ble_eq_true rfl) 5 rfl rfl hf (fun r1 σ2 hf => ?_)
  refine vv_callS [.int r1] [] (fun _ _ h => c_X4_underLid h) cs_X2_cooled_11 rfl (Nat.le_of_ble_eq_true rfl) 8 rfl dX2_cooled_5 rfl hf (fun r3 σ4 hf => ?_)
  exact vv_ireti rfl dX2_cooled_8 hf
abbrev mi_X2_slopped : ob_MI := (yX2_slopped, ob_ws yX2_slopped cX2_slopped 2 (some .int), cX2_slopped, 2, (some .int), { frames := 1, cells := 0, slots := 0, locals := 21 })
noncomputable def f_X2_slopped (σ : ob_St) (p1 : Int32) : Option (Int32 × ob_St) :=
  ob_bd (f_X8_slopped σ p1) fun r1 σ2 =>
  some ((r1 + 1), σ2)
set_option maxRecDepth 100000 in
set_option maxHeartbeats 4000000 in
theorem c_X2_slopped {g : ob_GT} {ad : Nat → Nat} {r : Int32} {σ' : ob_St} {σ : ob_St} {p1 : Int32} (hf : f_X2_slopped σ p1 = some (r, σ')) : ob_CT g (ob_X ad) mi_X2_slopped [.ref (ad 36), .int p1] σ (some (.int r)) σ' := by
  refine ob_ct (by decide +kernel) rfl (Nat.le_of_ble_eq_true rfl) ?_
  show ob_V g (ob_X ad) mi_X2_slopped (some (.int r)) σ' σ 0 [(0, .ref (ad 36)), (1, .int p1)] []
  refine vv_aload_n dX2_slopped_0 0 rfl rfl 1 rfl ?_
  refine vv_iload_n dX2_slopped_1 1 rfl rfl 2 rfl ?_
  refine vv_callP (n := 1) (ci := 2) (T := TX2) (N := 0) dX2_slopped_2 [.int p1] [] (fun _ _ h => c_X8_slopped h) (ob_rec ob_l36 rfl rfl) rfl rfl rfl tw_617 tw_1080 tw_181 tw_618 tw_53 tw_619 rfl (Or.inl rfl) ⟨rfl, rfl⟩ ⟨by decide +kernel, by decide +kernel⟩ ⟨Nat.le_of_ble_eq_true rfl, Nat.le_of_ble_eq_true rfl⟩ rfl (Nat.le_of_ble_eq_true rfl) 5 rfl rfl hf (fun r1 σ2 hf => ?_)
  refine vv_iconst dX2_slopped_5 1 rfl 6 rfl ?_
  refine vv_iadd dX2_slopped_6 7 rfl ?_
  exact vv_ireti rfl dX2_slopped_7 hf
abbrev mi_X7_cooled : ob_MI := (yX7_cooled, ob_ws yX7_cooled cX7_cooled 2 (some .int), cX7_cooled, 2, (some .int), { frames := 1, cells := 0, slots := 0, locals := 21 })
noncomputable def f_X7_cooled (σ : ob_St) (p1 : Int32) : Option (Int32 × ob_St) :=
  ob_bd (f_X6_cooled σ p1) fun r1 σ2 =>
  some ((r1 + 1), σ2)
set_option maxRecDepth 100000 in
set_option maxHeartbeats 4000000 in
theorem c_X7_cooled {g : ob_GT} {ad : Nat → Nat} {r : Int32} {σ' : ob_St} {σ : ob_St} {p1 : Int32} (hf : f_X7_cooled σ p1 = some (r, σ')) : ob_CT g (ob_X ad) mi_X7_cooled [.ref (ad 37), .int p1] σ (some (.int r)) σ' := by
  refine ob_ct (by decide +kernel) rfl (Nat.le_of_ble_eq_true rfl) ?_
  show ob_V g (ob_X ad) mi_X7_cooled (some (.int r)) σ' σ 0 [(0, .ref (ad 37)), (1, .int p1)] []
  refine vv_aload_n dX7_cooled_0 0 rfl rfl 1 rfl ?_
  refine vv_iload_n dX7_cooled_1 1 rfl rfl 2 rfl ?_
  refine vv_callP (n := 1) (ci := 7) (T := TX7) (N := 0) dX7_cooled_2 [.int p1] [] (fun _ _ h => c_X6_cooled h) (ob_rec ob_l37 rfl rfl) rfl rfl rfl tw_606 tw_585 tw_188 tw_583 tw_52 tw_608 rfl (Or.inl rfl) ⟨rfl, rfl⟩ ⟨by decide +kernel, by decide +kernel⟩ ⟨Nat.le_of_ble_eq_true rfl, Nat.le_of_ble_eq_true rfl⟩ rfl (Nat.le_of_ble_eq_true rfl) 5 rfl rfl hf (fun r1 σ2 hf => ?_)
  refine vv_iconst dX7_cooled_5 1 rfl 6 rfl ?_
  refine vv_iadd dX7_cooled_6 7 rfl ?_
  exact vv_ireti rfl dX7_cooled_7 hf
abbrev mi_X7_isAlone : ob_MI := (yX7_isAlone, ob_ws yX7_isAlone cX7_isAlone 1 (some .boolean), cX7_isAlone, 1, (some .boolean), { frames := 0, cells := 0, slots := 0, locals := 0 })
noncomputable def f_X7_isAlone (σ : ob_St) : Option (Int32 × ob_St) :=
  ob_rb 1 σ
set_option maxRecDepth 100000 in
set_option maxHeartbeats 4000000 in
theorem c_X7_isAlone {g : ob_GT} {ad : Nat → Nat} {a0 : Nat} {r : Int32} {σ' : ob_St} {σ : ob_St} (hf : f_X7_isAlone σ = some (r, σ')) : ob_CT g (ob_X ad) mi_X7_isAlone [.ref a0] σ (some (.int r)) σ' := by
  refine ob_ct (by decide +kernel) rfl (Nat.le_of_ble_eq_true rfl) ?_
  show ob_V g (ob_X ad) mi_X7_isAlone (some (.int r)) σ' σ 0 [(0, .ref a0)] []
  refine vv_iconst dX7_isAlone_0 1 rfl 1 rfl ?_
  exact vv_iretz rfl dX7_isAlone_1 hf
noncomputable def f_disp_cooled (q : Nat) (σ : ob_St) (x : Int32) : Option (Int32 × ob_St) :=
  if q = 32 then f_X6_cooled σ x else
  if q = 33 then f_X6_cooled σ x else
  if q = 34 then f_X4_cooled σ x else
  if q = 35 then f_X0_cooled σ x else
  if q = 36 then f_X2_cooled σ x else
  if q = 37 then f_X7_cooled σ x else
  none
noncomputable def f_disp_slopped (q : Nat) (σ : ob_St) (x : Int32) : Option (Int32 × ob_St) :=
  if q = 32 then f_X6_slopped σ x else
  if q = 33 then f_X8_slopped σ x else
  if q = 34 then f_X6_slopped σ x else
  if q = 35 then f_X6_slopped σ x else
  if q = 36 then f_X2_slopped σ x else
  if q = 37 then f_X6_slopped σ x else
  none
noncomputable def f_disp_isAlone (q : Nat) (σ : ob_St) : Option (Int32 × ob_St) :=
  if q = 32 then f_X6_isAlone σ else
  if q = 33 then f_X6_isAlone σ else
  if q = 34 then f_X6_isAlone σ else
  if q = 35 then f_X6_isAlone σ else
  if q = 36 then f_X6_isAlone σ else
  if q = 37 then f_X7_isAlone σ else
  none
