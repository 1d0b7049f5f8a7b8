theorem dJ9_floorMod_7cf53_0 : decode cJ9_floorMod_7cf53 0 = .ok (.iload_n 0, 1) := by decide +kernel
theorem dJ9_floorMod_7cf53_1 : decode cJ9_floorMod_7cf53 1 = .ok (.iload_n 1, 1) := by decide +kernel
theorem dJ9_floorMod_7cf53_2 : decode cJ9_floorMod_7cf53 2 = .ok (.irem, 1) := by decide +kernel
theorem dJ9_floorMod_7cf53_3 : decode cJ9_floorMod_7cf53 3 = .ok (.istore_n 2, 1) := by decide +kernel
theorem dJ9_floorMod_7cf53_4 : decode cJ9_floorMod_7cf53 4 = .ok (.iload_n 0, 1) := by decide +kernel
theorem dJ9_floorMod_7cf53_5 : decode cJ9_floorMod_7cf53 5 = .ok (.iload_n 1, 1) := by decide +kernel
theorem dJ9_floorMod_7cf53_6 : decode cJ9_floorMod_7cf53 6 = .ok (.ixor, 1) := by decide +kernel
theorem dJ9_floorMod_7cf53_7 : decode cJ9_floorMod_7cf53 7 = .ok (.ifCond .ge 11, 3) := by decide +kernel
theorem dJ9_floorMod_7cf53_10 : decode cJ9_floorMod_7cf53 10 = .ok (.iload_n 2, 1) := by decide +kernel
theorem dJ9_floorMod_7cf53_11 : decode cJ9_floorMod_7cf53 11 = .ok (.ifCond .eq 7, 3) := by decide +kernel
theorem dJ9_floorMod_7cf53_14 : decode cJ9_floorMod_7cf53 14 = .ok (.iload_n 2, 1) := by decide +kernel
theorem dJ9_floorMod_7cf53_15 : decode cJ9_floorMod_7cf53 15 = .ok (.iload_n 1, 1) := by decide +kernel
theorem dJ9_floorMod_7cf53_16 : decode cJ9_floorMod_7cf53 16 = .ok (.iadd, 1) := by decide +kernel
theorem dJ9_floorMod_7cf53_17 : decode cJ9_floorMod_7cf53 17 = .ok (.ireturn, 1) := by decide +kernel
theorem dJ9_floorMod_7cf53_18 : decode cJ9_floorMod_7cf53 18 = .ok (.iload_n 2, 1) := by decide +kernel
theorem dJ9_floorMod_7cf53_19 : decode cJ9_floorMod_7cf53 19 = .ok (.ireturn, 1) := by decide +kernel
theorem dJ9_abs_0f7a4_0 : decode cJ9_abs_0f7a4 0 = .ok (.iload_n 0, 1) := by decide +kernel
theorem dJ9_abs_0f7a4_1 : decode cJ9_abs_0f7a4 1 = .ok (.ifCond .ge 8, 3) := by decide +kernel
theorem dJ9_abs_0f7a4_4 : decode cJ9_abs_0f7a4 4 = .ok (.iload_n 0, 1) := by decide +kernel
theorem dJ9_abs_0f7a4_5 : decode cJ9_abs_0f7a4 5 = .ok (.ineg, 1) := by decide +kernel
theorem dJ9_abs_0f7a4_6 : decode cJ9_abs_0f7a4 6 = .ok (.goto 4, 3) := by decide +kernel
theorem dJ9_abs_0f7a4_9 : decode cJ9_abs_0f7a4 9 = .ok (.iload_n 0, 1) := by decide +kernel
theorem dJ9_abs_0f7a4_10 : decode cJ9_abs_0f7a4 10 = .ok (.ireturn, 1) := by decide +kernel
theorem dJ9_max_7cf53_0 : decode cJ9_max_7cf53 0 = .ok (.iload_n 0, 1) := by decide +kernel
theorem dJ9_max_7cf53_1 : decode cJ9_max_7cf53 1 = .ok (.iload_n 1, 1) := by decide +kernel
theorem dJ9_max_7cf53_2 : decode cJ9_max_7cf53 2 = .ok (.if_icmp .lt 7, 3) := by decide +kernel
theorem dJ9_max_7cf53_5 : decode cJ9_max_7cf53 5 = .ok (.iload_n 0, 1) := by decide +kernel
theorem dJ9_max_7cf53_6 : decode cJ9_max_7cf53 6 = .ok (.goto 4, 3) := by decide +kernel
theorem dJ9_max_7cf53_9 : decode cJ9_max_7cf53 9 = .ok (.iload_n 1, 1) := by decide +kernel
theorem dJ9_max_7cf53_10 : decode cJ9_max_7cf53 10 = .ok (.ireturn, 1) := by decide +kernel
theorem dJ9_min_7cf53_0 : decode cJ9_min_7cf53 0 = .ok (.iload_n 0, 1) := by decide +kernel
theorem dJ9_min_7cf53_1 : decode cJ9_min_7cf53 1 = .ok (.iload_n 1, 1) := by decide +kernel
theorem dJ9_min_7cf53_2 : decode cJ9_min_7cf53 2 = .ok (.if_icmp .gt 7, 3) := by decide +kernel
theorem dJ9_min_7cf53_5 : decode cJ9_min_7cf53 5 = .ok (.iload_n 0, 1) := by decide +kernel
theorem dJ9_min_7cf53_6 : decode cJ9_min_7cf53 6 = .ok (.goto 4, 3) := by decide +kernel
theorem dJ9_min_7cf53_9 : decode cJ9_min_7cf53 9 = .ok (.iload_n 1, 1) := by decide +kernel
theorem dJ9_min_7cf53_10 : decode cJ9_min_7cf53 10 = .ok (.ireturn, 1) := by decide +kernel
theorem dX0_init_0 : decode cX0_init 0 = .ok (.aload_n 0, 1) := by decide +kernel
theorem dX0_init_1 : decode cX0_init 1 = .ok (.invokespecial 3, 3) := by decide +kernel
theorem dX0_init_4 : decode cX0_init 4 = .ok (.aload_n 0, 1) := by decide +kernel
theorem dX0_init_5 : decode cX0_init 5 = .ok (.bipush 60, 2) := by decide +kernel
theorem dX0_init_7 : decode cX0_init 7 = .ok (.newarray .int, 2) := by decide +kernel
theorem dX0_init_9 : decode cX0_init 9 = .ok (.putfield 9, 3) := by decide +kernel
theorem dX0_init_12 : decode cX0_init 12 = .ok (.aload_n 0, 1) := by decide +kernel
theorem dX0_init_13 : decode cX0_init 13 = .ok (.bipush 60, 2) := by decide +kernel
theorem dX0_init_15 : decode cX0_init 15 = .ok (.newarray .int, 2) := by decide +kernel
theorem dX0_init_17 : decode cX0_init 17 = .ok (.putfield 15, 3) := by decide +kernel
theorem dX0_init_20 : decode cX0_init 20 = .ok (.aload_n 0, 1) := by decide +kernel
theorem dX0_init_21 : decode cX0_init 21 = .ok (.iconst 5, 1) := by decide +kernel
theorem dX0_init_22 : decode cX0_init 22 = .ok (.putfield 18, 3) := by decide +kernel
theorem dX0_init_25 : decode cX0_init 25 = .ok (.aload_n 0, 1) := by decide +kernel
theorem dX0_init_26 : decode cX0_init 26 = .ok (.bipush 10, 2) := by decide +kernel
theorem dX0_init_28 : decode cX0_init 28 = .ok (.putfield 22, 3) := by decide +kernel
theorem dX0_init_31 : decode cX0_init 31 = .ok (.return_, 1) := by decide +kernel
theorem dX0_gather_0 : decode cX0_gather 0 = .ok (.iconst 0, 1) := by decide +kernel
theorem dX0_gather_1 : decode cX0_gather 1 = .ok (.istore_n 2, 1) := by decide +kernel
theorem dX0_gather_2 : decode cX0_gather 2 = .ok (.iload_n 2, 1) := by decide +kernel
theorem dX0_gather_3 : decode cX0_gather 3 = .ok (.aload_n 1, 1) := by decide +kernel
theorem dX0_gather_4 : decode cX0_gather 4 = .ok (.getfield 25, 3) := by decide +kernel
theorem dX0_gather_7 : decode cX0_gather 7 = .ok (.getfield 31, 3) := by decide +kernel
theorem dX0_gather_10 : decode cX0_gather 10 = .ok (.if_icmp .ge 67, 3) := by decide +kernel
theorem dX0_gather_13 : decode cX0_gather 13 = .ok (.aload_n 0, 1) := by decide +kernel
theorem dX0_gather_14 : decode cX0_gather 14 = .ok (.getfield 9, 3) := by decide +kernel
theorem dX0_gather_17 : decode cX0_gather 17 = .ok (.iload_n 2, 1) := by decide +kernel
theorem dX0_gather_18 : decode cX0_gather 18 = .ok (.iload_n 2, 1) := by decide +kernel
theorem dX0_gather_19 : decode cX0_gather 19 = .ok (.iastore, 1) := by decide +kernel
theorem dX0_gather_20 : decode cX0_gather 20 = .ok (.iconst 0, 1) := by decide +kernel
theorem dX0_gather_21 : decode cX0_gather 21 = .ok (.istore_n 3, 1) := by decide +kernel
theorem dX0_gather_22 : decode cX0_gather 22 = .ok (.iload_n 3, 1) := by decide +kernel
theorem dX0_gather_23 : decode cX0_gather 23 = .ok (.iload_n 2, 1) := by decide +kernel
theorem dX0_gather_24 : decode cX0_gather 24 = .ok (.if_icmp .ge 47, 3) := by decide +kernel
theorem dX0_gather_27 : decode cX0_gather 27 = .ok (.aload_n 0, 1) := by decide +kernel
theorem dX0_gather_28 : decode cX0_gather 28 = .ok (.getfield 9, 3) := by decide +kernel
theorem dX0_gather_31 : decode cX0_gather 31 = .ok (.iload_n 2, 1) := by decide +kernel
theorem dX0_gather_32 : decode cX0_gather 32 = .ok (.iaload, 1) := by decide +kernel
theorem dX0_gather_33 : decode cX0_gather 33 = .ok (.aload_n 0, 1) := by decide +kernel
theorem dX0_gather_34 : decode cX0_gather 34 = .ok (.getfield 9, 3) := by decide +kernel
theorem dX0_gather_37 : decode cX0_gather 37 = .ok (.iload_n 3, 1) := by decide +kernel
theorem dX0_gather_38 : decode cX0_gather 38 = .ok (.iaload, 1) := by decide +kernel
theorem dX0_gather_39 : decode cX0_gather 39 = .ok (.if_icmp .eq 26, 3) := by decide +kernel
theorem dX0_gather_42 : decode cX0_gather 42 = .ok (.aload_n 1, 1) := by decide +kernel
theorem dX0_gather_43 : decode cX0_gather 43 = .ok (.iload_n 2, 1) := by decide +kernel
theorem dX0_gather_44 : decode cX0_gather 44 = .ok (.iload_n 3, 1) := by decide +kernel
theorem dX0_gather_45 : decode cX0_gather 45 = .ok (.aload_n 0, 1) := by decide +kernel
theorem dX0_gather_46 : decode cX0_gather 46 = .ok (.getfield 18, 3) := by decide +kernel
theorem dX0_gather_49 : decode cX0_gather 49 = .ok (.aload_n 0, 1) := by decide +kernel
theorem dX0_gather_50 : decode cX0_gather 50 = .ok (.getfield 22, 3) := by decide +kernel
theorem dX0_gather_53 : decode cX0_gather 53 = .ok (.invokevirtual 36, 3) := by decide +kernel
theorem dX0_gather_56 : decode cX0_gather 56 = .ok (.ifCond .eq 9, 3) := by decide +kernel
theorem dX0_gather_59 : decode cX0_gather 59 = .ok (.aload_n 0, 1) := by decide +kernel
theorem dX0_gather_60 : decode cX0_gather 60 = .ok (.iload_n 2, 1) := by decide +kernel
theorem dX0_gather_61 : decode cX0_gather 61 = .ok (.iload_n 3, 1) := by decide +kernel
theorem dX0_gather_62 : decode cX0_gather 62 = .ok (.invokevirtual 40, 3) := by decide +kernel
theorem dX0_gather_65 : decode cX0_gather 65 = .ok (.iinc 3 1, 3) := by decide +kernel
theorem dX0_gather_68 : decode cX0_gather 68 = .ok (.goto (-46), 3) := by decide +kernel
theorem dX0_gather_71 : decode cX0_gather 71 = .ok (.iinc 2 1, 3) := by decide +kernel
theorem dX0_gather_74 : decode cX0_gather 74 = .ok (.goto (-72), 3) := by decide +kernel
theorem dX0_gather_77 : decode cX0_gather 77 = .ok (.aload_n 0, 1) := by decide +kernel
theorem dX0_gather_78 : decode cX0_gather 78 = .ok (.aload_n 1, 1) := by decide +kernel
theorem dX0_gather_79 : decode cX0_gather 79 = .ok (.getfield 25, 3) := by decide +kernel
theorem dX0_gather_82 : decode cX0_gather 82 = .ok (.getfield 31, 3) := by decide +kernel
theorem dX0_gather_85 : decode cX0_gather 85 = .ok (.invokevirtual 44, 3) := by decide +kernel
theorem dX0_gather_88 : decode cX0_gather 88 = .ok (.return_, 1) := by decide +kernel
theorem dX0_unite_0 : decode cX0_unite 0 = .ok (.aload_n 0, 1) := by decide +kernel
theorem dX0_unite_1 : decode cX0_unite 1 = .ok (.getfield 9, 3) := by decide +kernel
theorem dX0_unite_4 : decode cX0_unite 4 = .ok (.iload_n 1, 1) := by decide +kernel
theorem dX0_unite_5 : decode cX0_unite 5 = .ok (.iaload, 1) := by decide +kernel
theorem dX0_unite_6 : decode cX0_unite 6 = .ok (.aload_n 0, 1) := by decide +kernel
theorem dX0_unite_7 : decode cX0_unite 7 = .ok (.getfield 9, 3) := by decide +kernel
theorem dX0_unite_10 : decode cX0_unite 10 = .ok (.iload_n 2, 1) := by decide +kernel
theorem dX0_unite_11 : decode cX0_unite 11 = .ok (.iaload, 1) := by decide +kernel
theorem dX0_unite_12 : decode cX0_unite 12 = .ok (.invokestatic 48, 3) := by decide +kernel
theorem dX0_unite_15 : decode cX0_unite 15 = .ok (.istore_n 3, 1) := by decide +kernel
theorem dX0_unite_16 : decode cX0_unite 16 = .ok (.aload_n 0, 1) := by decide +kernel
theorem dX0_unite_17 : decode cX0_unite 17 = .ok (.getfield 9, 3) := by decide +kernel
theorem dX0_unite_20 : decode cX0_unite 20 = .ok (.iload_n 1, 1) := by decide +kernel
theorem dX0_unite_21 : decode cX0_unite 21 = .ok (.iaload, 1) := by decide +kernel
theorem dX0_unite_22 : decode cX0_unite 22 = .ok (.aload_n 0, 1) := by decide +kernel
theorem dX0_unite_23 : decode cX0_unite 23 = .ok (.getfield 9, 3) := by decide +kernel
theorem dX0_unite_26 : decode cX0_unite 26 = .ok (.iload_n 2, 1) := by decide +kernel
theorem dX0_unite_27 : decode cX0_unite 27 = .ok (.iaload, 1) := by decide +kernel
theorem dX0_unite_28 : decode cX0_unite 28 = .ok (.invokestatic 54, 3) := by decide +kernel
theorem dX0_unite_31 : decode cX0_unite 31 = .ok (.istore 4, 2) := by decide +kernel
theorem dX0_unite_33 : decode cX0_unite 33 = .ok (.iconst 0, 1) := by decide +kernel
theorem dX0_unite_34 : decode cX0_unite 34 = .ok (.istore 5, 2) := by decide +kernel
theorem dX0_unite_36 : decode cX0_unite 36 = .ok (.iload 5, 2) := by decide +kernel
theorem dX0_unite_38 : decode cX0_unite 38 = .ok (.iload_n 1, 1) := by decide +kernel
theorem dX0_unite_39 : decode cX0_unite 39 = .ok (.if_icmp .gt 29, 3) := by decide +kernel
theorem dX0_unite_42 : decode cX0_unite 42 = .ok (.aload_n 0, 1) := by decide +kernel
theorem dX0_unite_43 : decode cX0_unite 43 = .ok (.getfield 9, 3) := by decide +kernel
theorem dX0_unite_46 : decode cX0_unite 46 = .ok (.iload 5, 2) := by decide +kernel
theorem dX0_unite_48 : decode cX0_unite 48 = .ok (.iaload, 1) := by decide +kernel
theorem dX0_unite_49 : decode cX0_unite 49 = .ok (.iload 4, 2) := by decide +kernel
theorem dX0_unite_51 : decode cX0_unite 51 = .ok (.if_icmp .ne 11, 3) := by decide +kernel
theorem dX0_unite_54 : decode cX0_unite 54 = .ok (.aload_n 0, 1) := by decide +kernel
theorem dX0_unite_55 : decode cX0_unite 55 = .ok (.getfield 9, 3) := by decide +kernel
theorem dX0_unite_58 : decode cX0_unite 58 = .ok (.iload 5, 2) := by decide +kernel
theorem dX0_unite_60 : decode cX0_unite 60 = .ok (.iload_n 3, 1) := by decide +kernel
theorem dX0_unite_61 : decode cX0_unite 61 = .ok (.iastore, 1) := by decide +kernel
theorem dX0_unite_62 : decode cX0_unite 62 = .ok (.iinc 5 1, 3) := by decide +kernel
theorem dX0_unite_65 : decode cX0_unite 65 = .ok (.goto (-29), 3) := by decide +kernel
theorem dX0_unite_68 : decode cX0_unite 68 = .ok (.return_, 1) := by decide +kernel
theorem dX0_giveNumbers_0 : decode cX0_giveNumbers 0 = .ok (.aload_n 0, 1) := by decide +kernel
theorem dX0_giveNumbers_1 : decode cX0_giveNumbers 1 = .ok (.iconst 0, 1) := by decide +kernel
theorem dX0_giveNumbers_2 : decode cX0_giveNumbers 2 = .ok (.putfield 57, 3) := by decide +kernel
theorem dX0_giveNumbers_5 : decode cX0_giveNumbers 5 = .ok (.iconst 0, 1) := by decide +kernel
theorem dX0_giveNumbers_6 : decode cX0_giveNumbers 6 = .ok (.istore_n 2, 1) := by decide +kernel
theorem dX0_giveNumbers_7 : decode cX0_giveNumbers 7 = .ok (.iload_n 2, 1) := by decide +kernel
theorem dX0_giveNumbers_8 : decode cX0_giveNumbers 8 = .ok (.iload_n 1, 1) := by decide +kernel
theorem dX0_giveNumbers_9 : decode cX0_giveNumbers 9 = .ok (.if_icmp .ge 59, 3) := by decide +kernel
theorem dX0_giveNumbers_12 : decode cX0_giveNumbers 12 = .ok (.aload_n 0, 1) := by decide +kernel
theorem dX0_giveNumbers_13 : decode cX0_giveNumbers 13 = .ok (.getfield 9, 3) := by decide +kernel
theorem dX0_giveNumbers_16 : decode cX0_giveNumbers 16 = .ok (.iload_n 2, 1) := by decide +kernel
theorem dX0_giveNumbers_17 : decode cX0_giveNumbers 17 = .ok (.iaload, 1) := by decide +kernel
theorem dX0_giveNumbers_18 : decode cX0_giveNumbers 18 = .ok (.iload_n 2, 1) := by decide +kernel
theorem dX0_giveNumbers_19 : decode cX0_giveNumbers 19 = .ok (.if_icmp .ne 26, 3) := by decide +kernel
theorem dX0_giveNumbers_22 : decode cX0_giveNumbers 22 = .ok (.aload_n 0, 1) := by decide +kernel
theorem dX0_giveNumbers_23 : decode cX0_giveNumbers 23 = .ok (.getfield 15, 3) := by decide +kernel
theorem dX0_giveNumbers_26 : decode cX0_giveNumbers 26 = .ok (.iload_n 2, 1) := by decide +kernel
theorem dX0_giveNumbers_27 : decode cX0_giveNumbers 27 = .ok (.aload_n 0, 1) := by decide +kernel
theorem dX0_giveNumbers_28 : decode cX0_giveNumbers 28 = .ok (.getfield 57, 3) := by decide +kernel
theorem dX0_giveNumbers_31 : decode cX0_giveNumbers 31 = .ok (.iastore, 1) := by decide +kernel
theorem dX0_giveNumbers_32 : decode cX0_giveNumbers 32 = .ok (.aload_n 0, 1) := by decide +kernel
theorem dX0_giveNumbers_33 : decode cX0_giveNumbers 33 = .ok (.dup, 1) := by decide +kernel
theorem dX0_giveNumbers_34 : decode cX0_giveNumbers 34 = .ok (.getfield 57, 3) := by decide +kernel
theorem dX0_giveNumbers_37 : decode cX0_giveNumbers 37 = .ok (.iconst 1, 1) := by decide +kernel
theorem dX0_giveNumbers_38 : decode cX0_giveNumbers 38 = .ok (.iadd, 1) := by decide +kernel
theorem dX0_giveNumbers_39 : decode cX0_giveNumbers 39 = .ok (.putfield 57, 3) := by decide +kernel
theorem dX0_giveNumbers_42 : decode cX0_giveNumbers 42 = .ok (.goto 20, 3) := by decide +kernel
theorem dX0_giveNumbers_45 : decode cX0_giveNumbers 45 = .ok (.aload_n 0, 1) := by decide +kernel
theorem dX0_giveNumbers_46 : decode cX0_giveNumbers 46 = .ok (.getfield 15, 3) := by decide +kernel
theorem dX0_giveNumbers_49 : decode cX0_giveNumbers 49 = .ok (.iload_n 2, 1) := by decide +kernel
theorem dX0_giveNumbers_50 : decode cX0_giveNumbers 50 = .ok (.aload_n 0, 1) := by decide +kernel
theorem dX0_giveNumbers_51 : decode cX0_giveNumbers 51 = .ok (.getfield 15, 3) := by decide +kernel
theorem dX0_giveNumbers_54 : decode cX0_giveNumbers 54 = .ok (.aload_n 0, 1) := by decide +kernel
theorem dX0_giveNumbers_55 : decode cX0_giveNumbers 55 = .ok (.getfield 9, 3) := by decide +kernel
theorem dX0_giveNumbers_58 : decode cX0_giveNumbers 58 = .ok (.iload_n 2, 1) := by decide +kernel
theorem dX0_giveNumbers_59 : decode cX0_giveNumbers 59 = .ok (.iaload, 1) := by decide +kernel
theorem dX0_giveNumbers_60 : decode cX0_giveNumbers 60 = .ok (.iaload, 1) := by decide +kernel
theorem dX0_giveNumbers_61 : decode cX0_giveNumbers 61 = .ok (.iastore, 1) := by decide +kernel
theorem dX0_giveNumbers_62 : decode cX0_giveNumbers 62 = .ok (.iinc 2 1, 3) := by decide +kernel
theorem dX0_giveNumbers_65 : decode cX0_giveNumbers 65 = .ok (.goto (-58), 3) := by decide +kernel
theorem dX0_giveNumbers_68 : decode cX0_giveNumbers 68 = .ok (.return_, 1) := by decide +kernel
theorem dX1_init_0 : decode cX1_init 0 = .ok (.aload_n 0, 1) := by decide +kernel
theorem dX1_init_1 : decode cX1_init 1 = .ok (.invokespecial 3, 3) := by decide +kernel
theorem dX1_init_4 : decode cX1_init 4 = .ok (.aload_n 0, 1) := by decide +kernel
theorem dX1_init_5 : decode cX1_init 5 = .ok (.bipush 10, 2) := by decide +kernel
theorem dX1_init_7 : decode cX1_init 7 = .ok (.bipush 10, 2) := by decide +kernel
theorem dX1_init_9 : decode cX1_init 9 = .ok (.multianewarray 9 2, 4) := by decide +kernel
theorem dX1_init_13 : decode cX1_init 13 = .ok (.putfield 11, 3) := by decide +kernel
theorem dX1_init_16 : decode cX1_init 16 = .ok (.return_, 1) := by decide +kernel
theorem dX1_add_0 : decode cX1_add 0 = .ok (.aload_n 0, 1) := by decide +kernel
theorem dX1_add_1 : decode cX1_add 1 = .ok (.getfield 16, 3) := by decide +kernel
theorem dX1_add_4 : decode cX1_add 4 = .ok (.bipush 10, 2) := by decide +kernel
theorem dX1_add_6 : decode cX1_add 6 = .ok (.if_icmp .ge 10, 3) := by decide +kernel
theorem dX1_add_9 : decode cX1_add 9 = .ok (.aload_n 1, 1) := by decide +kernel
theorem dX1_add_10 : decode cX1_add 10 = .ok (.arraylength, 1) := by decide +kernel
theorem dX1_add_11 : decode cX1_add 11 = .ok (.bipush 10, 2) := by decide +kernel
theorem dX1_add_13 : decode cX1_add 13 = .ok (.if_icmp .ge 5, 3) := by decide +kernel
theorem dX1_add_16 : decode cX1_add 16 = .ok (.iconst (-1), 1) := by decide +kernel
theorem dX1_add_17 : decode cX1_add 17 = .ok (.ireturn, 1) := by decide +kernel
theorem dX1_add_18 : decode cX1_add 18 = .ok (.iconst 0, 1) := by decide +kernel
theorem dX1_add_19 : decode cX1_add 19 = .ok (.istore_n 2, 1) := by decide +kernel
theorem dX1_add_20 : decode cX1_add 20 = .ok (.iload_n 2, 1) := by decide +kernel
theorem dX1_add_21 : decode cX1_add 21 = .ok (.bipush 10, 2) := by decide +kernel
theorem dX1_add_23 : decode cX1_add 23 = .ok (.if_icmp .ge 23, 3) := by decide +kernel
theorem dX1_add_26 : decode cX1_add 26 = .ok (.aload_n 0, 1) := by decide +kernel
theorem dX1_add_27 : decode cX1_add 27 = .ok (.getfield 11, 3) := by decide +kernel
theorem dX1_add_30 : decode cX1_add 30 = .ok (.aload_n 0, 1) := by decide +kernel
theorem dX1_add_31 : decode cX1_add 31 = .ok (.getfield 16, 3) := by decide +kernel
theorem dX1_add_34 : decode cX1_add 34 = .ok (.aaload, 1) := by decide +kernel
theorem dX1_add_35 : decode cX1_add 35 = .ok (.iload_n 2, 1) := by decide +kernel
theorem dX1_add_36 : decode cX1_add 36 = .ok (.aload_n 1, 1) := by decide +kernel
theorem dX1_add_37 : decode cX1_add 37 = .ok (.iload_n 2, 1) := by decide +kernel
theorem dX1_add_38 : decode cX1_add 38 = .ok (.iaload, 1) := by decide +kernel
theorem dX1_add_39 : decode cX1_add 39 = .ok (.iastore, 1) := by decide +kernel
theorem dX1_add_40 : decode cX1_add 40 = .ok (.iinc 2 1, 3) := by decide +kernel
theorem dX1_add_43 : decode cX1_add 43 = .ok (.goto (-23), 3) := by decide +kernel
theorem dX1_add_46 : decode cX1_add 46 = .ok (.aload_n 0, 1) := by decide +kernel
theorem dX1_add_47 : decode cX1_add 47 = .ok (.dup, 1) := by decide +kernel
theorem dX1_add_48 : decode cX1_add 48 = .ok (.getfield 16, 3) := by decide +kernel
theorem dX1_add_51 : decode cX1_add 51 = .ok (.iconst 1, 1) := by decide +kernel
theorem dX1_add_52 : decode cX1_add 52 = .ok (.iadd, 1) := by decide +kernel
theorem dX1_add_53 : decode cX1_add 53 = .ok (.putfield 16, 3) := by decide +kernel
theorem dX1_add_56 : decode cX1_add 56 = .ok (.aload_n 0, 1) := by decide +kernel
theorem dX1_add_57 : decode cX1_add 57 = .ok (.getfield 16, 3) := by decide +kernel
theorem dX1_add_60 : decode cX1_add 60 = .ok (.iconst 1, 1) := by decide +kernel
theorem dX1_add_61 : decode cX1_add 61 = .ok (.isub, 1) := by decide +kernel
theorem dX1_add_62 : decode cX1_add 62 = .ok (.ireturn, 1) := by decide +kernel
theorem dX1_judge_0 : decode cX1_judge 0 = .ok (.aload_n 0, 1) := by decide +kernel
theorem dX1_judge_1 : decode cX1_judge 1 = .ok (.iload_n 1, 1) := by decide +kernel
theorem dX1_judge_2 : decode cX1_judge 2 = .ok (.iconst 0, 1) := by decide +kernel
theorem dX1_judge_3 : decode cX1_judge 3 = .ok (.aload_n 2, 1) := by decide +kernel
theorem dX1_judge_4 : decode cX1_judge 4 = .ok (.getfield 20, 3) := by decide +kernel
theorem dX1_judge_7 : decode cX1_judge 7 = .ok (.aload_n 2, 1) := by decide +kernel
theorem dX1_judge_8 : decode cX1_judge 8 = .ok (.getfield 20, 3) := by decide +kernel
theorem dX1_judge_11 : decode cX1_judge 11 = .ok (.invokevirtual 25, 3) := by decide +kernel
theorem dX1_judge_14 : decode cX1_judge 14 = .ok (.ifCond .ne 5, 3) := by decide +kernel
theorem dX1_judge_17 : decode cX1_judge 17 = .ok (.iconst 1, 1) := by decide +kernel
theorem dX1_judge_18 : decode cX1_judge 18 = .ok (.ireturn, 1) := by decide +kernel
theorem dX1_judge_19 : decode cX1_judge 19 = .ok (.aload_n 0, 1) := by decide +kernel
theorem dX1_judge_20 : decode cX1_judge 20 = .ok (.iload_n 1, 1) := by decide +kernel
theorem dX1_judge_21 : decode cX1_judge 21 = .ok (.iconst 2, 1) := by decide +kernel
theorem dX1_judge_22 : decode cX1_judge 22 = .ok (.aload_n 2, 1) := by decide +kernel
theorem dX1_judge_23 : decode cX1_judge 23 = .ok (.getfield 29, 3) := by decide +kernel
theorem dX1_judge_26 : decode cX1_judge 26 = .ok (.aload_n 2, 1) := by decide +kernel
theorem dX1_judge_27 : decode cX1_judge 27 = .ok (.getfield 32, 3) := by decide +kernel
theorem dX1_judge_30 : decode cX1_judge 30 = .ok (.invokevirtual 25, 3) := by decide +kernel
theorem dX1_judge_33 : decode cX1_judge 33 = .ok (.ifCond .ne 5, 3) := by decide +kernel
theorem dX1_judge_36 : decode cX1_judge 36 = .ok (.iconst 2, 1) := by decide +kernel
theorem dX1_judge_37 : decode cX1_judge 37 = .ok (.ireturn, 1) := by decide +kernel
theorem dX1_judge_38 : decode cX1_judge 38 = .ok (.iconst 0, 1) := by decide +kernel
theorem dX1_judge_39 : decode cX1_judge 39 = .ok (.istore 4, 2) := by decide +kernel
theorem dX1_judge_41 : decode cX1_judge 41 = .ok (.iload 4, 2) := by decide +kernel
theorem dX1_judge_43 : decode cX1_judge 43 = .ok (.aload_n 2, 1) := by decide +kernel
theorem dX1_judge_44 : decode cX1_judge 44 = .ok (.getfield 35, 3) := by decide +kernel
theorem dX1_judge_47 : decode cX1_judge 47 = .ok (.if_icmp .ge 42, 3) := by decide +kernel
theorem dX1_judge_50 : decode cX1_judge 50 = .ok (.aload_n 2, 1) := by decide +kernel
theorem dX1_judge_51 : decode cX1_judge 51 = .ok (.getfield 36, 3) := by decide +kernel
theorem dX1_judge_54 : decode cX1_judge 54 = .ok (.iload 4, 2) := by decide +kernel
theorem dX1_judge_56 : decode cX1_judge 56 = .ok (.iaload, 1) := by decide +kernel
theorem dX1_judge_57 : decode cX1_judge 57 = .ok (.istore 5, 2) := by decide +kernel
theorem dX1_judge_59 : decode cX1_judge 59 = .ok (.aload_n 0, 1) := by decide +kernel
theorem dX1_judge_60 : decode cX1_judge 60 = .ok (.iload_n 1, 1) := by decide +kernel
theorem dX1_judge_61 : decode cX1_judge 61 = .ok (.aload_n 3, 1) := by decide +kernel
theorem dX1_judge_62 : decode cX1_judge 62 = .ok (.getfield 40, 3) := by decide +kernel
theorem dX1_judge_65 : decode cX1_judge 65 = .ok (.iload 5, 2) := by decide +kernel
theorem dX1_judge_67 : decode cX1_judge 67 = .ok (.iaload, 1) := by decide +kernel
theorem dX1_judge_68 : decode cX1_judge 68 = .ok (.aload_n 3, 1) := by decide +kernel
theorem dX1_judge_69 : decode cX1_judge 69 = .ok (.getfield 45, 3) := by decide +kernel
theorem dX1_judge_72 : decode cX1_judge 72 = .ok (.iload 5, 2) := by decide +kernel
theorem dX1_judge_74 : decode cX1_judge 74 = .ok (.iaload, 1) := by decide +kernel
theorem dX1_judge_75 : decode cX1_judge 75 = .ok (.invokevirtual 48, 3) := by decide +kernel
theorem dX1_judge_78 : decode cX1_judge 78 = .ok (.ifCond .ne 5, 3) := by decide +kernel
theorem dX1_judge_81 : decode cX1_judge 81 = .ok (.iconst 3, 1) := by decide +kernel
theorem dX1_judge_82 : decode cX1_judge 82 = .ok (.ireturn, 1) := by decide +kernel
theorem dX1_judge_83 : decode cX1_judge 83 = .ok (.iinc 4 1, 3) := by decide +kernel
theorem dX1_judge_86 : decode cX1_judge 86 = .ok (.goto (-45), 3) := by decide +kernel
theorem dX1_judge_89 : decode cX1_judge 89 = .ok (.aload_n 0, 1) := by decide +kernel
theorem dX1_judge_90 : decode cX1_judge 90 = .ok (.iload_n 1, 1) := by decide +kernel
theorem dX1_judge_91 : decode cX1_judge 91 = .ok (.aload_n 2, 1) := by decide +kernel
theorem dX1_judge_92 : decode cX1_judge 92 = .ok (.getfield 52, 3) := by decide +kernel
theorem dX1_judge_95 : decode cX1_judge 95 = .ok (.invokevirtual 55, 3) := by decide +kernel
theorem dX1_judge_98 : decode cX1_judge 98 = .ok (.ireturn, 1) := by decide +kernel
theorem dX1_allows_0 : decode cX1_allows 0 = .ok (.iload_n 3, 1) := by decide +kernel
theorem dX1_allows_1 : decode cX1_allows 1 = .ok (.aload_n 0, 1) := by decide +kernel
theorem dX1_allows_2 : decode cX1_allows 2 = .ok (.getfield 11, 3) := by decide +kernel
theorem dX1_allows_5 : decode cX1_allows 5 = .ok (.iload_n 1, 1) := by decide +kernel
theorem dX1_allows_6 : decode cX1_allows 6 = .ok (.aaload, 1) := by decide +kernel
theorem dX1_allows_7 : decode cX1_allows 7 = .ok (.iconst 2, 1) := by decide +kernel
theorem dX1_allows_8 : decode cX1_allows 8 = .ok (.iload_n 2, 1) := by decide +kernel
theorem dX1_allows_9 : decode cX1_allows 9 = .ok (.imul, 1) := by decide +kernel
theorem dX1_allows_10 : decode cX1_allows 10 = .ok (.iaload, 1) := by decide +kernel
theorem dX1_allows_11 : decode cX1_allows 11 = .ok (.if_icmp .lt 24, 3) := by decide +kernel
theorem dX1_allows_14 : decode cX1_allows 14 = .ok (.iload 4, 2) := by decide +kernel
theorem dX1_allows_16 : decode cX1_allows 16 = .ok (.aload_n 0, 1) := by decide +kernel
theorem dX1_allows_17 : decode cX1_allows 17 = .ok (.getfield 11, 3) := by decide +kernel
theorem dX1_allows_20 : decode cX1_allows 20 = .ok (.iload_n 1, 1) := by decide +kernel
theorem dX1_allows_21 : decode cX1_allows 21 = .ok (.aaload, 1) := by decide +kernel
theorem dX1_allows_22 : decode cX1_allows 22 = .ok (.iconst 2, 1) := by decide +kernel
theorem dX1_allows_23 : decode cX1_allows 23 = .ok (.iload_n 2, 1) := by decide +kernel
theorem dX1_allows_24 : decode cX1_allows 24 = .ok (.imul, 1) := by decide +kernel
theorem dX1_allows_25 : decode cX1_allows 25 = .ok (.iconst 1, 1) := by decide +kernel
theorem dX1_allows_26 : decode cX1_allows 26 = .ok (.iadd, 1) := by decide +kernel
theorem dX1_allows_27 : decode cX1_allows 27 = .ok (.iaload, 1) := by decide +kernel
theorem dX1_allows_28 : decode cX1_allows 28 = .ok (.if_icmp .gt 7, 3) := by decide +kernel
theorem dX1_allows_31 : decode cX1_allows 31 = .ok (.iconst 1, 1) := by decide +kernel
theorem dX1_allows_32 : decode cX1_allows 32 = .ok (.goto 4, 3) := by decide +kernel
theorem dX1_allows_35 : decode cX1_allows 35 = .ok (.iconst 0, 1) := by decide +kernel
theorem dX1_allows_36 : decode cX1_allows 36 = .ok (.ireturn, 1) := by decide +kernel
theorem dX1_allowsTime_0 : decode cX1_allowsTime 0 = .ok (.aload_n 0, 1) := by decide +kernel
theorem dX1_allowsTime_1 : decode cX1_allowsTime 1 = .ok (.getfield 11, 3) := by decide +kernel
theorem dX1_allowsTime_4 : decode cX1_allowsTime 4 = .ok (.iload_n 1, 1) := by decide +kernel
theorem dX1_allowsTime_5 : decode cX1_allowsTime 5 = .ok (.aaload, 1) := by decide +kernel
theorem dX1_allowsTime_6 : decode cX1_allowsTime 6 = .ok (.iconst 2, 1) := by decide +kernel
theorem dX1_allowsTime_7 : decode cX1_allowsTime 7 = .ok (.iaload, 1) := by decide +kernel
theorem dX1_allowsTime_8 : decode cX1_allowsTime 8 = .ok (.istore 4, 2) := by decide +kernel
theorem dX1_allowsTime_10 : decode cX1_allowsTime 10 = .ok (.aload_n 0, 1) := by decide +kernel
theorem dX1_allowsTime_11 : decode cX1_allowsTime 11 = .ok (.getfield 11, 3) := by decide +kernel
theorem dX1_allowsTime_14 : decode cX1_allowsTime 14 = .ok (.iload_n 1, 1) := by decide +kernel
theorem dX1_allowsTime_15 : decode cX1_allowsTime 15 = .ok (.aaload, 1) := by decide +kernel
theorem dX1_allowsTime_16 : decode cX1_allowsTime 16 = .ok (.iconst 3, 1) := by decide +kernel
theorem dX1_allowsTime_17 : decode cX1_allowsTime 17 = .ok (.iaload, 1) := by decide +kernel
theorem dX1_allowsTime_18 : decode cX1_allowsTime 18 = .ok (.iload 4, 2) := by decide +kernel
theorem dX1_allowsTime_20 : decode cX1_allowsTime 20 = .ok (.isub, 1) := by decide +kernel
theorem dX1_allowsTime_21 : decode cX1_allowsTime 21 = .ok (.sipush 1440, 3) := by decide +kernel
theorem dX1_allowsTime_24 : decode cX1_allowsTime 24 = .ok (.invokestatic 59, 3) := by decide +kernel
theorem dX1_allowsTime_27 : decode cX1_allowsTime 27 = .ok (.istore 5, 2) := by decide +kernel
theorem dX1_allowsTime_29 : decode cX1_allowsTime 29 = .ok (.iload 5, 2) := by decide +kernel
theorem dX1_allowsTime_31 : decode cX1_allowsTime 31 = .ok (.sipush 1439, 3) := by decide +kernel
theorem dX1_allowsTime_34 : decode cX1_allowsTime 34 = .ok (.if_icmp .eq 22, 3) := by decide +kernel
theorem dX1_allowsTime_37 : decode cX1_allowsTime 37 = .ok (.iload_n 2, 1) := by decide +kernel
theorem dX1_allowsTime_38 : decode cX1_allowsTime 38 = .ok (.iload 4, 2) := by decide +kernel
theorem dX1_allowsTime_40 : decode cX1_allowsTime 40 = .ok (.isub, 1) := by decide +kernel
theorem dX1_allowsTime_41 : decode cX1_allowsTime 41 = .ok (.sipush 1440, 3) := by decide +kernel
theorem dX1_allowsTime_44 : decode cX1_allowsTime 44 = .ok (.invokestatic 59, 3) := by decide +kernel
theorem dX1_allowsTime_47 : decode cX1_allowsTime 47 = .ok (.iload_n 3, 1) := by decide +kernel
theorem dX1_allowsTime_48 : decode cX1_allowsTime 48 = .ok (.iadd, 1) := by decide +kernel
theorem dX1_allowsTime_49 : decode cX1_allowsTime 49 = .ok (.iload_n 2, 1) := by decide +kernel
theorem dX1_allowsTime_50 : decode cX1_allowsTime 50 = .ok (.isub, 1) := by decide +kernel
theorem dX1_allowsTime_51 : decode cX1_allowsTime 51 = .ok (.iload 5, 2) := by decide +kernel
theorem dX1_allowsTime_53 : decode cX1_allowsTime 53 = .ok (.if_icmp .gt 7, 3) := by decide +kernel
theorem dX1_allowsTime_56 : decode cX1_allowsTime 56 = .ok (.iconst 1, 1) := by decide +kernel
theorem dX1_allowsTime_57 : decode cX1_allowsTime 57 = .ok (.goto 4, 3) := by decide +kernel
theorem dX1_allowsTime_60 : decode cX1_allowsTime 60 = .ok (.iconst 0, 1) := by decide +kernel
theorem dX1_allowsTime_61 : decode cX1_allowsTime 61 = .ok (.ireturn, 1) := by decide +kernel
theorem dX1_judgeFields_0 : decode cX1_judgeFields 0 = .ok (.aload_n 0, 1) := by decide +kernel
theorem dX1_judgeFields_1 : decode cX1_judgeFields 1 = .ok (.getfield 11, 3) := by decide +kernel
theorem dX1_judgeFields_4 : decode cX1_judgeFields 4 = .ok (.iload_n 1, 1) := by decide +kernel
theorem dX1_judgeFields_5 : decode cX1_judgeFields 5 = .ok (.aaload, 1) := by decide +kernel
theorem dX1_judgeFields_6 : decode cX1_judgeFields 6 = .ok (.bipush 6, 2) := by decide +kernel
theorem dX1_judgeFields_8 : decode cX1_judgeFields 8 = .ok (.iaload, 1) := by decide +kernel
theorem dX1_judgeFields_9 : decode cX1_judgeFields 9 = .ok (.istore_n 3, 1) := by decide +kernel
theorem dX1_judgeFields_10 : decode cX1_judgeFields 10 = .ok (.aload_n 0, 1) := by decide +kernel
theorem dX1_judgeFields_11 : decode cX1_judgeFields 11 = .ok (.getfield 11, 3) := by decide +kernel
theorem dX1_judgeFields_14 : decode cX1_judgeFields 14 = .ok (.iload_n 1, 1) := by decide +kernel
theorem dX1_judgeFields_15 : decode cX1_judgeFields 15 = .ok (.aaload, 1) := by decide +kernel
theorem dX1_judgeFields_16 : decode cX1_judgeFields 16 = .ok (.bipush 7, 2) := by decide +kernel
theorem dX1_judgeFields_18 : decode cX1_judgeFields 18 = .ok (.iaload, 1) := by decide +kernel
theorem dX1_judgeFields_19 : decode cX1_judgeFields 19 = .ok (.istore 4, 2) := by decide +kernel
theorem dX1_judgeFields_21 : decode cX1_judgeFields 21 = .ok (.iconst (-1), 1) := by decide +kernel
theorem dX1_judgeFields_22 : decode cX1_judgeFields 22 = .ok (.bipush 31, 2) := by decide +kernel
theorem dX1_judgeFields_24 : decode cX1_judgeFields 24 = .ok (.iload 4, 2) := by decide +kernel
theorem dX1_judgeFields_26 : decode cX1_judgeFields 26 = .ok (.iload_n 3, 1) := by decide +kernel
theorem dX1_judgeFields_27 : decode cX1_judgeFields 27 = .ok (.isub, 1) := by decide +kernel
theorem dX1_judgeFields_28 : decode cX1_judgeFields 28 = .ok (.isub, 1) := by decide +kernel
theorem dX1_judgeFields_29 : decode cX1_judgeFields 29 = .ok (.iushr, 1) := by decide +kernel
theorem dX1_judgeFields_30 : decode cX1_judgeFields 30 = .ok (.iload_n 3, 1) := by decide +kernel
theorem dX1_judgeFields_31 : decode cX1_judgeFields 31 = .ok (.ishl, 1) := by decide +kernel
theorem dX1_judgeFields_32 : decode cX1_judgeFields 32 = .ok (.istore 5, 2) := by decide +kernel
theorem dX1_judgeFields_34 : decode cX1_judgeFields 34 = .ok (.iconst 0, 1) := by decide +kernel
theorem dX1_judgeFields_35 : decode cX1_judgeFields 35 = .ok (.istore 6, 2) := by decide +kernel
theorem dX1_judgeFields_37 : decode cX1_judgeFields 37 = .ok (.iconst 1, 1) := by decide +kernel
theorem dX1_judgeFields_38 : decode cX1_judgeFields 38 = .ok (.istore 7, 2) := by decide +kernel
theorem dX1_judgeFields_40 : decode cX1_judgeFields 40 = .ok (.iconst 0, 1) := by decide +kernel
theorem dX1_judgeFields_41 : decode cX1_judgeFields 41 = .ok (.istore 8, 2) := by decide +kernel
theorem dX1_judgeFields_43 : decode cX1_judgeFields 43 = .ok (.iload 8, 2) := by decide +kernel
theorem dX1_judgeFields_45 : decode cX1_judgeFields 45 = .ok (.bipush 32, 2) := by decide +kernel
theorem dX1_judgeFields_47 : decode cX1_judgeFields 47 = .ok (.if_icmp .ge 73, 3) := by decide +kernel
theorem dX1_judgeFields_50 : decode cX1_judgeFields 50 = .ok (.aload_n 0, 1) := by decide +kernel
theorem dX1_judgeFields_51 : decode cX1_judgeFields 51 = .ok (.iload_n 1, 1) := by decide +kernel
theorem dX1_judgeFields_52 : decode cX1_judgeFields 52 = .ok (.iconst 4, 1) := by decide +kernel
theorem dX1_judgeFields_53 : decode cX1_judgeFields 53 = .ok (.iload 8, 2) := by decide +kernel
theorem dX1_judgeFields_55 : decode cX1_judgeFields 55 = .ok (.iload 8, 2) := by decide +kernel
theorem dX1_judgeFields_57 : decode cX1_judgeFields 57 = .ok (.invokevirtual 25, 3) := by decide +kernel
theorem dX1_judgeFields_60 : decode cX1_judgeFields 60 = .ok (.ifCond .eq 13, 3) := by decide +kernel
theorem dX1_judgeFields_63 : decode cX1_judgeFields 63 = .ok (.aload_n 2, 1) := by decide +kernel
theorem dX1_judgeFields_64 : decode cX1_judgeFields 64 = .ok (.iload 8, 2) := by decide +kernel
theorem dX1_judgeFields_66 : decode cX1_judgeFields 66 = .ok (.iaload, 1) := by decide +kernel
theorem dX1_judgeFields_67 : decode cX1_judgeFields 67 = .ok (.iload 5, 2) := by decide +kernel
theorem dX1_judgeFields_69 : decode cX1_judgeFields 69 = .ok (.iand, 1) := by decide +kernel
theorem dX1_judgeFields_70 : decode cX1_judgeFields 70 = .ok (.goto 4, 3) := by decide +kernel
theorem dX1_judgeFields_73 : decode cX1_judgeFields 73 = .ok (.iconst 0, 1) := by decide +kernel
theorem dX1_judgeFields_74 : decode cX1_judgeFields 74 = .ok (.istore 9, 2) := by decide +kernel
theorem dX1_judgeFields_76 : decode cX1_judgeFields 76 = .ok (.iload 6, 2) := by decide +kernel
theorem dX1_judgeFields_78 : decode cX1_judgeFields 78 = .ok (.ifCond .ne 8, 3) := by decide +kernel
theorem dX1_judgeFields_81 : decode cX1_judgeFields 81 = .ok (.iload 9, 2) := by decide +kernel
theorem dX1_judgeFields_83 : decode cX1_judgeFields 83 = .ok (.ifCond .eq 7, 3) := by decide +kernel
theorem dX1_judgeFields_86 : decode cX1_judgeFields 86 = .ok (.iconst 1, 1) := by decide +kernel
theorem dX1_judgeFields_87 : decode cX1_judgeFields 87 = .ok (.goto 4, 3) := by decide +kernel
theorem dX1_judgeFields_90 : decode cX1_judgeFields 90 = .ok (.iconst 0, 1) := by decide +kernel
theorem dX1_judgeFields_91 : decode cX1_judgeFields 91 = .ok (.istore 6, 2) := by decide +kernel
theorem dX1_judgeFields_93 : decode cX1_judgeFields 93 = .ok (.iload 7, 2) := by decide +kernel
theorem dX1_judgeFields_95 : decode cX1_judgeFields 95 = .ok (.ifCond .eq 16, 3) := by decide +kernel
theorem dX1_judgeFields_98 : decode cX1_judgeFields 98 = .ok (.iload 9, 2) := by decide +kernel
theorem dX1_judgeFields_100 : decode cX1_judgeFields 100 = .ok (.aload_n 2, 1) := by decide +kernel
theorem dX1_judgeFields_101 : decode cX1_judgeFields 101 = .ok (.iload 8, 2) := by decide +kernel
theorem dX1_judgeFields_103 : decode cX1_judgeFields 103 = .ok (.iaload, 1) := by decide +kernel
theorem dX1_judgeFields_104 : decode cX1_judgeFields 104 = .ok (.if_icmp .ne 7, 3) := by decide +kernel
theorem dX1_judgeFields_107 : decode cX1_judgeFields 107 = .ok (.iconst 1, 1) := by decide +kernel
theorem dX1_judgeFields_108 : decode cX1_judgeFields 108 = .ok (.goto 4, 3) := by decide +kernel
theorem dX1_judgeFields_111 : decode cX1_judgeFields 111 = .ok (.iconst 0, 1) := by decide +kernel
theorem dX1_judgeFields_112 : decode cX1_judgeFields 112 = .ok (.istore 7, 2) := by decide +kernel
theorem dX1_judgeFields_114 : decode cX1_judgeFields 114 = .ok (.iinc 8 1, 3) := by decide +kernel
theorem dX1_judgeFields_117 : decode cX1_judgeFields 117 = .ok (.goto (-74), 3) := by decide +kernel
theorem dX1_judgeFields_120 : decode cX1_judgeFields 120 = .ok (.iload 6, 2) := by decide +kernel
theorem dX1_judgeFields_122 : decode cX1_judgeFields 122 = .ok (.ifCond .ne 5, 3) := by decide +kernel
theorem dX1_judgeFields_125 : decode cX1_judgeFields 125 = .ok (.iconst 4, 1) := by decide +kernel
theorem dX1_judgeFields_126 : decode cX1_judgeFields 126 = .ok (.ireturn, 1) := by decide +kernel
theorem dX1_judgeFields_127 : decode cX1_judgeFields 127 = .ok (.iload 7, 2) := by decide +kernel
theorem dX1_judgeFields_129 : decode cX1_judgeFields 129 = .ok (.ifCond .eq 7, 3) := by decide +kernel
theorem dX1_judgeFields_132 : decode cX1_judgeFields 132 = .ok (.iconst 0, 1) := by decide +kernel
theorem dX1_judgeFields_133 : decode cX1_judgeFields 133 = .ok (.goto 4, 3) := by decide +kernel
theorem dX1_judgeFields_136 : decode cX1_judgeFields 136 = .ok (.iconst 5, 1) := by decide +kernel
theorem dX1_judgeFields_137 : decode cX1_judgeFields 137 = .ok (.ireturn, 1) := by decide +kernel
theorem dX1_choose_0 : decode cX1_choose 0 = .ok (.iconst (-1), 1) := by decide +kernel
theorem dX1_choose_1 : decode cX1_choose 1 = .ok (.istore_n 3, 1) := by decide +kernel
theorem dX1_choose_2 : decode cX1_choose 2 = .ok (.bipush 6, 2) := by decide +kernel
theorem dX1_choose_4 : decode cX1_choose 4 = .ok (.istore 4, 2) := by decide +kernel
theorem dX1_choose_6 : decode cX1_choose 6 = .ok (.iconst 0, 1) := by decide +kernel
theorem dX1_choose_7 : decode cX1_choose 7 = .ok (.istore 5, 2) := by decide +kernel
theorem dX1_choose_9 : decode cX1_choose 9 = .ok (.iload 5, 2) := by decide +kernel
theorem dX1_choose_11 : decode cX1_choose 11 = .ok (.aload_n 0, 1) := by decide +kernel
theorem dX1_choose_12 : decode cX1_choose 12 = .ok (.getfield 16, 3) := by decide +kernel
theorem dX1_choose_15 : decode cX1_choose 15 = .ok (.if_icmp .ge 39, 3) := by decide +kernel
theorem dX1_choose_18 : decode cX1_choose 18 = .ok (.bipush 6, 2) := by decide +kernel
theorem dX1_choose_20 : decode cX1_choose 20 = .ok (.aload_n 0, 1) := by decide +kernel
theorem dX1_choose_21 : decode cX1_choose 21 = .ok (.iload 5, 2) := by decide +kernel
theorem dX1_choose_23 : decode cX1_choose 23 = .ok (.aload_n 1, 1) := by decide +kernel
theorem dX1_choose_24 : decode cX1_choose 24 = .ok (.aload_n 2, 1) := by decide +kernel
theorem dX1_choose_25 : decode cX1_choose 25 = .ok (.invokevirtual 65, 3) := by decide +kernel
theorem dX1_choose_28 : decode cX1_choose 28 = .ok (.isub, 1) := by decide +kernel
theorem dX1_choose_29 : decode cX1_choose 29 = .ok (.bipush 6, 2) := by decide +kernel
theorem dX1_choose_31 : decode cX1_choose 31 = .ok (.irem, 1) := by decide +kernel
theorem dX1_choose_32 : decode cX1_choose 32 = .ok (.istore 6, 2) := by decide +kernel
theorem dX1_choose_34 : decode cX1_choose 34 = .ok (.iload 6, 2) := by decide +kernel
theorem dX1_choose_36 : decode cX1_choose 36 = .ok (.iload 4, 2) := by decide +kernel
theorem dX1_choose_38 : decode cX1_choose 38 = .ok (.if_icmp .ge 10, 3) := by decide +kernel
theorem dX1_choose_41 : decode cX1_choose 41 = .ok (.iload 6, 2) := by decide +kernel
theorem dX1_choose_43 : decode cX1_choose 43 = .ok (.istore 4, 2) := by decide +kernel
theorem dX1_choose_45 : decode cX1_choose 45 = .ok (.iload 5, 2) := by decide +kernel
theorem dX1_choose_47 : decode cX1_choose 47 = .ok (.istore_n 3, 1) := by decide +kernel
theorem dX1_choose_48 : decode cX1_choose 48 = .ok (.iinc 5 1, 3) := by decide +kernel
theorem dX1_choose_51 : decode cX1_choose 51 = .ok (.goto (-42), 3) := by decide +kernel
theorem dX1_choose_54 : decode cX1_choose 54 = .ok (.iload_n 3, 1) := by decide +kernel
theorem dX1_choose_55 : decode cX1_choose 55 = .ok (.ireturn, 1) := by decide +kernel
theorem dX2_init_0 : decode cX2_init 0 = .ok (.aload_n 0, 1) := by decide +kernel
theorem dX2_init_1 : decode cX2_init 1 = .ok (.invokespecial 3, 3) := by decide +kernel
theorem dX2_init_4 : decode cX2_init 4 = .ok (.aload_n 0, 1) := by decide +kernel
theorem dX2_init_5 : decode cX2_init 5 = .ok (.new 9, 3) := by decide +kernel
theorem dX2_init_8 : decode cX2_init 8 = .ok (.dup, 1) := by decide +kernel
theorem dX2_init_9 : decode cX2_init 9 = .ok (.bipush 60, 2) := by decide +kernel
theorem dX2_init_11 : decode cX2_init 11 = .ok (.invokespecial 11, 3) := by decide +kernel
theorem dX2_init_14 : decode cX2_init 14 = .ok (.putfield 14, 3) := by decide +kernel
theorem dX2_init_17 : decode cX2_init 17 = .ok (.aload_n 0, 1) := by decide +kernel
theorem dX2_init_18 : decode cX2_init 18 = .ok (.bipush 60, 2) := by decide +kernel
theorem dX2_init_20 : decode cX2_init 20 = .ok (.newarray .int, 2) := by decide +kernel
theorem dX2_init_22 : decode cX2_init 22 = .ok (.putfield 20, 3) := by decide +kernel
theorem dX2_init_25 : decode cX2_init 25 = .ok (.aload_n 0, 1) := by decide +kernel
theorem dX2_init_26 : decode cX2_init 26 = .ok (.bipush 60, 2) := by decide +kernel
theorem dX2_init_28 : decode cX2_init 28 = .ok (.newarray .boolean, 2) := by decide +kernel
theorem dX2_init_30 : decode cX2_init 30 = .ok (.putfield 24, 3) := by decide +kernel
theorem dX2_init_33 : decode cX2_init 33 = .ok (.aload_n 0, 1) := by decide +kernel
theorem dX2_init_34 : decode cX2_init 34 = .ok (.bipush 60, 2) := by decide +kernel
theorem dX2_init_36 : decode cX2_init 36 = .ok (.bipush 32, 2) := by decide +kernel
theorem dX2_init_38 : decode cX2_init 38 = .ok (.multianewarray 28 2, 4) := by decide +kernel
theorem dX2_init_42 : decode cX2_init 42 = .ok (.putfield 30, 3) := by decide +kernel
theorem dX2_init_45 : decode cX2_init 45 = .ok (.return_, 1) := by decide +kernel
theorem dX2_add_0 : decode cX2_add 0 = .ok (.aload_n 0, 1) := by decide +kernel
theorem dX2_add_1 : decode cX2_add 1 = .ok (.getfield 14, 3) := by decide +kernel
theorem dX2_add_4 : decode cX2_add 4 = .ok (.iload_n 1, 1) := by decide +kernel
theorem dX2_add_5 : decode cX2_add 5 = .ok (.iload_n 2, 1) := by decide +kernel
theorem dX2_add_6 : decode cX2_add 6 = .ok (.iload_n 3, 1) := by decide +kernel
theorem dX2_add_7 : decode cX2_add 7 = .ok (.iload 4, 2) := by decide +kernel
theorem dX2_add_9 : decode cX2_add 9 = .ok (.invokevirtual 33, 3) := by decide +kernel
theorem dX2_add_12 : decode cX2_add 12 = .ok (.istore 6, 2) := by decide +kernel
theorem dX2_add_14 : decode cX2_add 14 = .ok (.iload 6, 2) := by decide +kernel
theorem dX2_add_16 : decode cX2_add 16 = .ok (.iconst (-1), 1) := by decide +kernel
theorem dX2_add_17 : decode cX2_add 17 = .ok (.if_icmp .eq 12, 3) := by decide +kernel
theorem dX2_add_20 : decode cX2_add 20 = .ok (.aload_n 0, 1) := by decide +kernel
theorem dX2_add_21 : decode cX2_add 21 = .ok (.getfield 20, 3) := by decide +kernel
theorem dX2_add_24 : decode cX2_add 24 = .ok (.iload 6, 2) := by decide +kernel
theorem dX2_add_26 : decode cX2_add 26 = .ok (.iload 5, 2) := by decide +kernel
theorem dX2_add_28 : decode cX2_add 28 = .ok (.iastore, 1) := by decide +kernel
theorem dX2_add_29 : decode cX2_add 29 = .ok (.iload 6, 2) := by decide +kernel
theorem dX2_add_31 : decode cX2_add 31 = .ok (.ireturn, 1) := by decide +kernel
theorem dX2_clearFields_0 : decode cX2_clearFields 0 = .ok (.aload_n 0, 1) := by decide +kernel
theorem dX2_clearFields_1 : decode cX2_clearFields 1 = .ok (.getfield 24, 3) := by decide +kernel
theorem dX2_clearFields_4 : decode cX2_clearFields 4 = .ok (.iload_n 1, 1) := by decide +kernel
theorem dX2_clearFields_5 : decode cX2_clearFields 5 = .ok (.baload, 1) := by decide +kernel
theorem dX2_clearFields_6 : decode cX2_clearFields 6 = .ok (.ifCond .ne 20, 3) := by decide +kernel
theorem dX2_clearFields_9 : decode cX2_clearFields 9 = .ok (.aload_n 0, 1) := by decide +kernel
theorem dX2_clearFields_10 : decode cX2_clearFields 10 = .ok (.getfield 24, 3) := by decide +kernel
theorem dX2_clearFields_13 : decode cX2_clearFields 13 = .ok (.iload_n 1, 1) := by decide +kernel
theorem dX2_clearFields_14 : decode cX2_clearFields 14 = .ok (.iconst 1, 1) := by decide +kernel
theorem dX2_clearFields_15 : decode cX2_clearFields 15 = .ok (.bastore, 1) := by decide +kernel
theorem dX2_clearFields_16 : decode cX2_clearFields 16 = .ok (.aload_n 0, 1) := by decide +kernel
theorem dX2_clearFields_17 : decode cX2_clearFields 17 = .ok (.dup, 1) := by decide +kernel
theorem dX2_clearFields_18 : decode cX2_clearFields 18 = .ok (.getfield 37, 3) := by decide +kernel
theorem dX2_clearFields_21 : decode cX2_clearFields 21 = .ok (.iconst 1, 1) := by decide +kernel
theorem dX2_clearFields_22 : decode cX2_clearFields 22 = .ok (.iadd, 1) := by decide +kernel
theorem dX2_clearFields_23 : decode cX2_clearFields 23 = .ok (.putfield 37, 3) := by decide +kernel
theorem dX2_clearFields_26 : decode cX2_clearFields 26 = .ok (.iconst 0, 1) := by decide +kernel
theorem dX2_clearFields_27 : decode cX2_clearFields 27 = .ok (.istore_n 2, 1) := by decide +kernel
theorem dX2_clearFields_28 : decode cX2_clearFields 28 = .ok (.iload_n 2, 1) := by decide +kernel
theorem dX2_clearFields_29 : decode cX2_clearFields 29 = .ok (.bipush 32, 2) := by decide +kernel
theorem dX2_clearFields_31 : decode cX2_clearFields 31 = .ok (.if_icmp .ge 18, 3) := by decide +kernel
theorem dX2_clearFields_34 : decode cX2_clearFields 34 = .ok (.aload_n 0, 1) := by decide +kernel
theorem dX2_clearFields_35 : decode cX2_clearFields 35 = .ok (.getfield 30, 3) := by decide +kernel
theorem dX2_clearFields_38 : decode cX2_clearFields 38 = .ok (.iload_n 1, 1) := by decide +kernel
theorem dX2_clearFields_39 : decode cX2_clearFields 39 = .ok (.aaload, 1) := by decide +kernel
theorem dX2_clearFields_40 : decode cX2_clearFields 40 = .ok (.iload_n 2, 1) := by decide +kernel
theorem dX2_clearFields_41 : decode cX2_clearFields 41 = .ok (.iconst 0, 1) := by decide +kernel
theorem dX2_clearFields_42 : decode cX2_clearFields 42 = .ok (.iastore, 1) := by decide +kernel
theorem dX2_clearFields_43 : decode cX2_clearFields 43 = .ok (.iinc 2 1, 3) := by decide +kernel
theorem dX2_clearFields_46 : decode cX2_clearFields 46 = .ok (.goto (-18), 3) := by decide +kernel
theorem dX2_clearFields_49 : decode cX2_clearFields 49 = .ok (.return_, 1) := by decide +kernel
theorem dX2_addField_0 : decode cX2_addField 0 = .ok (.aload_n 0, 1) := by decide +kernel
theorem dX2_addField_1 : decode cX2_addField 1 = .ok (.getfield 30, 3) := by decide +kernel
theorem dX2_addField_4 : decode cX2_addField 4 = .ok (.iload_n 1, 1) := by decide +kernel
theorem dX2_addField_5 : decode cX2_addField 5 = .ok (.aaload, 1) := by decide +kernel
theorem dX2_addField_6 : decode cX2_addField 6 = .ok (.iload_n 2, 1) := by decide +kernel
theorem dX2_addField_7 : decode cX2_addField 7 = .ok (.bipush 32, 2) := by decide +kernel
theorem dX2_addField_9 : decode cX2_addField 9 = .ok (.idiv, 1) := by decide +kernel
theorem dX2_addField_10 : decode cX2_addField 10 = .ok (.dup2, 1) := by decide +kernel
theorem dX2_addField_11 : decode cX2_addField 11 = .ok (.iaload, 1) := by decide +kernel
theorem dX2_addField_12 : decode cX2_addField 12 = .ok (.iconst 1, 1) := by decide +kernel
theorem dX2_addField_13 : decode cX2_addField 13 = .ok (.iload_n 2, 1) := by decide +kernel
theorem dX2_addField_14 : decode cX2_addField 14 = .ok (.bipush 32, 2) := by decide +kernel
theorem dX2_addField_16 : decode cX2_addField 16 = .ok (.irem, 1) := by decide +kernel
theorem dX2_addField_17 : decode cX2_addField 17 = .ok (.ishl, 1) := by decide +kernel
theorem dX2_addField_18 : decode cX2_addField 18 = .ok (.ior, 1) := by decide +kernel
theorem dX2_addField_19 : decode cX2_addField 19 = .ok (.iastore, 1) := by decide +kernel
theorem dX2_addField_20 : decode cX2_addField 20 = .ok (.return_, 1) := by decide +kernel
theorem dX2_areJoined_0 : decode cX2_areJoined 0 = .ok (.aload_n 0, 1) := by decide +kernel
theorem dX2_areJoined_1 : decode cX2_areJoined 1 = .ok (.getfield 14, 3) := by decide +kernel
theorem dX2_areJoined_4 : decode cX2_areJoined 4 = .ok (.getfield 41, 3) := by decide +kernel
theorem dX2_areJoined_7 : decode cX2_areJoined 7 = .ok (.iload_n 1, 1) := by decide +kernel
theorem dX2_areJoined_8 : decode cX2_areJoined 8 = .ok (.iaload, 1) := by decide +kernel
theorem dX2_areJoined_9 : decode cX2_areJoined 9 = .ok (.aload_n 0, 1) := by decide +kernel
theorem dX2_areJoined_10 : decode cX2_areJoined 10 = .ok (.getfield 14, 3) := by decide +kernel
theorem dX2_areJoined_13 : decode cX2_areJoined 13 = .ok (.getfield 41, 3) := by decide +kernel
theorem dX2_areJoined_16 : decode cX2_areJoined 16 = .ok (.iload_n 2, 1) := by decide +kernel
theorem dX2_areJoined_17 : decode cX2_areJoined 17 = .ok (.iaload, 1) := by decide +kernel
theorem dX2_areJoined_18 : decode cX2_areJoined 18 = .ok (.if_icmp .ne 75, 3) := by decide +kernel
theorem dX2_areJoined_21 : decode cX2_areJoined 21 = .ok (.aload_n 0, 1) := by decide +kernel
theorem dX2_areJoined_22 : decode cX2_areJoined 22 = .ok (.getfield 20, 3) := by decide +kernel
theorem dX2_areJoined_25 : decode cX2_areJoined 25 = .ok (.iload_n 1, 1) := by decide +kernel
theorem dX2_areJoined_26 : decode cX2_areJoined 26 = .ok (.iaload, 1) := by decide +kernel
theorem dX2_areJoined_27 : decode cX2_areJoined 27 = .ok (.aload_n 0, 1) := by decide +kernel
theorem dX2_areJoined_28 : decode cX2_areJoined 28 = .ok (.getfield 20, 3) := by decide +kernel
theorem dX2_areJoined_31 : decode cX2_areJoined 31 = .ok (.iload_n 2, 1) := by decide +kernel
theorem dX2_areJoined_32 : decode cX2_areJoined 32 = .ok (.iaload, 1) := by decide +kernel
theorem dX2_areJoined_33 : decode cX2_areJoined 33 = .ok (.isub, 1) := by decide +kernel
theorem dX2_areJoined_34 : decode cX2_areJoined 34 = .ok (.invokestatic 44, 3) := by decide +kernel
theorem dX2_areJoined_37 : decode cX2_areJoined 37 = .ok (.iload_n 3, 1) := by decide +kernel
theorem dX2_areJoined_38 : decode cX2_areJoined 38 = .ok (.if_icmp .gt 55, 3) := by decide +kernel
theorem dX2_areJoined_41 : decode cX2_areJoined 41 = .ok (.aload_n 0, 1) := by decide +kernel
theorem dX2_areJoined_42 : decode cX2_areJoined 42 = .ok (.getfield 14, 3) := by decide +kernel
theorem dX2_areJoined_45 : decode cX2_areJoined 45 = .ok (.getfield 50, 3) := by decide +kernel
theorem dX2_areJoined_48 : decode cX2_areJoined 48 = .ok (.iload_n 1, 1) := by decide +kernel
theorem dX2_areJoined_49 : decode cX2_areJoined 49 = .ok (.iaload, 1) := by decide +kernel
theorem dX2_areJoined_50 : decode cX2_areJoined 50 = .ok (.aload_n 0, 1) := by decide +kernel
theorem dX2_areJoined_51 : decode cX2_areJoined 51 = .ok (.getfield 14, 3) := by decide +kernel
theorem dX2_areJoined_54 : decode cX2_areJoined 54 = .ok (.getfield 53, 3) := by decide +kernel
theorem dX2_areJoined_57 : decode cX2_areJoined 57 = .ok (.iload_n 2, 1) := by decide +kernel
theorem dX2_areJoined_58 : decode cX2_areJoined 58 = .ok (.iaload, 1) := by decide +kernel
theorem dX2_areJoined_59 : decode cX2_areJoined 59 = .ok (.isub, 1) := by decide +kernel
theorem dX2_areJoined_60 : decode cX2_areJoined 60 = .ok (.iload 4, 2) := by decide +kernel
theorem dX2_areJoined_62 : decode cX2_areJoined 62 = .ok (.if_icmp .gt 31, 3) := by decide +kernel
theorem dX2_areJoined_65 : decode cX2_areJoined 65 = .ok (.aload_n 0, 1) := by decide +kernel
theorem dX2_areJoined_66 : decode cX2_areJoined 66 = .ok (.getfield 14, 3) := by decide +kernel
theorem dX2_areJoined_69 : decode cX2_areJoined 69 = .ok (.getfield 50, 3) := by decide +kernel
theorem dX2_areJoined_72 : decode cX2_areJoined 72 = .ok (.iload_n 2, 1) := by decide +kernel
theorem dX2_areJoined_73 : decode cX2_areJoined 73 = .ok (.iaload, 1) := by decide +kernel
theorem dX2_areJoined_74 : decode cX2_areJoined 74 = .ok (.aload_n 0, 1) := by decide +kernel
theorem dX2_areJoined_75 : decode cX2_areJoined 75 = .ok (.getfield 14, 3) := by decide +kernel
theorem dX2_areJoined_78 : decode cX2_areJoined 78 = .ok (.getfield 53, 3) := by decide +kernel
theorem dX2_areJoined_81 : decode cX2_areJoined 81 = .ok (.iload_n 1, 1) := by decide +kernel
theorem dX2_areJoined_82 : decode cX2_areJoined 82 = .ok (.iaload, 1) := by decide +kernel
theorem dX2_areJoined_83 : decode cX2_areJoined 83 = .ok (.isub, 1) := by decide +kernel
theorem dX2_areJoined_84 : decode cX2_areJoined 84 = .ok (.iload 4, 2) := by decide +kernel
theorem dX2_areJoined_86 : decode cX2_areJoined 86 = .ok (.if_icmp .gt 7, 3) := by decide +kernel
theorem dX2_areJoined_89 : decode cX2_areJoined 89 = .ok (.iconst 1, 1) := by decide +kernel
theorem dX2_areJoined_90 : decode cX2_areJoined 90 = .ok (.goto 4, 3) := by decide +kernel
theorem dX2_areJoined_93 : decode cX2_areJoined 93 = .ok (.iconst 0, 1) := by decide +kernel
theorem dX2_areJoined_94 : decode cX2_areJoined 94 = .ok (.ireturn, 1) := by decide +kernel
theorem dX3_init_0 : decode cX3_init 0 = .ok (.aload_n 0, 1) := by decide +kernel
theorem dX3_init_1 : decode cX3_init 1 = .ok (.invokespecial 3, 3) := by decide +kernel
theorem dX3_init_4 : decode cX3_init 4 = .ok (.aload_n 0, 1) := by decide +kernel
theorem dX3_init_5 : decode cX3_init 5 = .ok (.iconst 4, 1) := by decide +kernel
theorem dX3_init_6 : decode cX3_init 6 = .ok (.newarray .int, 2) := by decide +kernel
theorem dX3_init_8 : decode cX3_init 8 = .ok (.putfield 9, 3) := by decide +kernel
theorem dX3_init_11 : decode cX3_init 11 = .ok (.aload_n 0, 1) := by decide +kernel
theorem dX3_init_12 : decode cX3_init 12 = .ok (.iconst 4, 1) := by decide +kernel
theorem dX3_init_13 : decode cX3_init 13 = .ok (.bipush 16, 2) := by decide +kernel
theorem dX3_init_15 : decode cX3_init 15 = .ok (.multianewarray 15 2, 4) := by decide +kernel
theorem dX3_init_19 : decode cX3_init 19 = .ok (.putfield 17, 3) := by decide +kernel
theorem dX3_init_22 : decode cX3_init 22 = .ok (.aload_n 0, 1) := by decide +kernel
theorem dX3_init_23 : decode cX3_init 23 = .ok (.iconst 4, 1) := by decide +kernel
theorem dX3_init_24 : decode cX3_init 24 = .ok (.iconst 4, 1) := by decide +kernel
theorem dX3_init_25 : decode cX3_init 25 = .ok (.multianewarray 15 2, 4) := by decide +kernel
theorem dX3_init_29 : decode cX3_init 29 = .ok (.putfield 20, 3) := by decide +kernel
theorem dX3_init_32 : decode cX3_init 32 = .ok (.aload_n 0, 1) := by decide +kernel
theorem dX3_init_33 : decode cX3_init 33 = .ok (.iconst 4, 1) := by decide +kernel
theorem dX3_init_34 : decode cX3_init 34 = .ok (.newarray .int, 2) := by decide +kernel
theorem dX3_init_36 : decode cX3_init 36 = .ok (.putfield 23, 3) := by decide +kernel
theorem dX3_init_39 : decode cX3_init 39 = .ok (.aload_n 0, 1) := by decide +kernel
theorem dX3_init_40 : decode cX3_init 40 = .ok (.iconst 4, 1) := by decide +kernel
theorem dX3_init_41 : decode cX3_init 41 = .ok (.newarray .int, 2) := by decide +kernel
theorem dX3_init_43 : decode cX3_init 43 = .ok (.putfield 26, 3) := by decide +kernel
theorem dX3_init_46 : decode cX3_init 46 = .ok (.return_, 1) := by decide +kernel
theorem dX3_lay_0 : decode cX3_lay 0 = .ok (.aload_n 0, 1) := by decide +kernel
theorem dX3_lay_1 : decode cX3_lay 1 = .ok (.iload_n 2, 1) := by decide +kernel
theorem dX3_lay_2 : decode cX3_lay 2 = .ok (.iconst 4, 1) := by decide +kernel
theorem dX3_lay_3 : decode cX3_lay 3 = .ok (.invokestatic 29, 3) := by decide +kernel
theorem dX3_lay_6 : decode cX3_lay 6 = .ok (.putfield 35, 3) := by decide +kernel
theorem dX3_lay_9 : decode cX3_lay 9 = .ok (.aload_n 0, 1) := by decide +kernel
theorem dX3_lay_10 : decode cX3_lay 10 = .ok (.iload_n 3, 1) := by decide +kernel
theorem dX3_lay_11 : decode cX3_lay 11 = .ok (.putfield 39, 3) := by decide +kernel
theorem dX3_lay_14 : decode cX3_lay 14 = .ok (.iconst 0, 1) := by decide +kernel
theorem dX3_lay_15 : decode cX3_lay 15 = .ok (.istore 4, 2) := by decide +kernel
theorem dX3_lay_17 : decode cX3_lay 17 = .ok (.iload 4, 2) := by decide +kernel
theorem dX3_lay_19 : decode cX3_lay 19 = .ok (.aload_n 0, 1) := by decide +kernel
theorem dX3_lay_20 : decode cX3_lay 20 = .ok (.getfield 35, 3) := by decide +kernel
theorem dX3_lay_23 : decode cX3_lay 23 = .ok (.if_icmp .ge 22, 3) := by decide +kernel
theorem dX3_lay_26 : decode cX3_lay 26 = .ok (.aload_n 0, 1) := by decide +kernel
theorem dX3_lay_27 : decode cX3_lay 27 = .ok (.getfield 9, 3) := by decide +kernel
theorem dX3_lay_30 : decode cX3_lay 30 = .ok (.iload 4, 2) := by decide +kernel
theorem dX3_lay_32 : decode cX3_lay 32 = .ok (.iload_n 1, 1) := by decide +kernel
theorem dX3_lay_33 : decode cX3_lay 33 = .ok (.iload 4, 2) := by decide +kernel
theorem dX3_lay_35 : decode cX3_lay 35 = .ok (.iload_n 3, 1) := by decide +kernel
theorem dX3_lay_36 : decode cX3_lay 36 = .ok (.imul, 1) := by decide +kernel
theorem dX3_lay_37 : decode cX3_lay 37 = .ok (.iadd, 1) := by decide +kernel
theorem dX3_lay_38 : decode cX3_lay 38 = .ok (.iastore, 1) := by decide +kernel
theorem dX3_lay_39 : decode cX3_lay 39 = .ok (.iinc 4 1, 3) := by decide +kernel
theorem dX3_lay_42 : decode cX3_lay 42 = .ok (.goto (-25), 3) := by decide +kernel
theorem dX3_lay_45 : decode cX3_lay 45 = .ok (.return_, 1) := by decide +kernel
theorem dX3_look_0 : decode cX3_look 0 = .ok (.iconst 0, 1) := by decide +kernel
theorem dX3_look_1 : decode cX3_look 1 = .ok (.istore_n 3, 1) := by decide +kernel
theorem dX3_look_2 : decode cX3_look 2 = .ok (.iload_n 3, 1) := by decide +kernel
theorem dX3_look_3 : decode cX3_look 3 = .ok (.aload_n 0, 1) := by decide +kernel
theorem dX3_look_4 : decode cX3_look 4 = .ok (.getfield 35, 3) := by decide +kernel
theorem dX3_look_7 : decode cX3_look 7 = .ok (.if_icmp .ge 109, 3) := by decide +kernel
theorem dX3_look_10 : decode cX3_look 10 = .ok (.iconst 0, 1) := by decide +kernel
theorem dX3_look_11 : decode cX3_look 11 = .ok (.istore 4, 2) := by decide +kernel
theorem dX3_look_13 : decode cX3_look 13 = .ok (.iload 4, 2) := by decide +kernel
theorem dX3_look_15 : decode cX3_look 15 = .ok (.bipush 16, 2) := by decide +kernel
theorem dX3_look_17 : decode cX3_look 17 = .ok (.if_icmp .ge 30, 3) := by decide +kernel
theorem dX3_look_20 : decode cX3_look 20 = .ok (.aload_n 0, 1) := by decide +kernel
theorem dX3_look_21 : decode cX3_look 21 = .ok (.getfield 17, 3) := by decide +kernel
theorem dX3_look_24 : decode cX3_look 24 = .ok (.iload_n 3, 1) := by decide +kernel
theorem dX3_look_25 : decode cX3_look 25 = .ok (.aaload, 1) := by decide +kernel
theorem dX3_look_26 : decode cX3_look 26 = .ok (.iload 4, 2) := by decide +kernel
theorem dX3_look_28 : decode cX3_look 28 = .ok (.aload_n 1, 1) := by decide +kernel
theorem dX3_look_29 : decode cX3_look 29 = .ok (.iload 4, 2) := by decide +kernel
theorem dX3_look_31 : decode cX3_look 31 = .ok (.aload_n 0, 1) := by decide +kernel
theorem dX3_look_32 : decode cX3_look 32 = .ok (.getfield 9, 3) := by decide +kernel
theorem dX3_look_35 : decode cX3_look 35 = .ok (.iload_n 3, 1) := by decide +kernel
theorem dX3_look_36 : decode cX3_look 36 = .ok (.iaload, 1) := by decide +kernel
theorem dX3_look_37 : decode cX3_look 37 = .ok (.invokevirtual 42, 3) := by decide +kernel
theorem dX3_look_40 : decode cX3_look 40 = .ok (.iastore, 1) := by decide +kernel
theorem dX3_look_41 : decode cX3_look 41 = .ok (.iinc 4 1, 3) := by decide +kernel
theorem dX3_look_44 : decode cX3_look 44 = .ok (.goto (-31), 3) := by decide +kernel
theorem dX3_look_47 : decode cX3_look 47 = .ok (.aload_n 0, 1) := by decide +kernel
theorem dX3_look_48 : decode cX3_look 48 = .ok (.iconst 0, 1) := by decide +kernel
theorem dX3_look_49 : decode cX3_look 49 = .ok (.putfield 47, 3) := by decide +kernel
theorem dX3_look_52 : decode cX3_look 52 = .ok (.iconst 0, 1) := by decide +kernel
theorem dX3_look_53 : decode cX3_look 53 = .ok (.istore 4, 2) := by decide +kernel
theorem dX3_look_55 : decode cX3_look 55 = .ok (.iload 4, 2) := by decide +kernel
theorem dX3_look_57 : decode cX3_look 57 = .ok (.bipush 16, 2) := by decide +kernel
theorem dX3_look_59 : decode cX3_look 59 = .ok (.if_icmp .ge 51, 3) := by decide +kernel
theorem dX3_look_62 : decode cX3_look 62 = .ok (.aload_n 0, 1) := by decide +kernel
theorem dX3_look_63 : decode cX3_look 63 = .ok (.iload_n 3, 1) := by decide +kernel
theorem dX3_look_64 : decode cX3_look 64 = .ok (.iload 4, 2) := by decide +kernel
theorem dX3_look_66 : decode cX3_look 66 = .ok (.iload_n 2, 1) := by decide +kernel
theorem dX3_look_67 : decode cX3_look 67 = .ok (.invokevirtual 50, 3) := by decide +kernel
theorem dX3_look_70 : decode cX3_look 70 = .ok (.ifCond .eq 34, 3) := by decide +kernel
theorem dX3_look_73 : decode cX3_look 73 = .ok (.aload_n 0, 1) := by decide +kernel
theorem dX3_look_74 : decode cX3_look 74 = .ok (.getfield 47, 3) := by decide +kernel
theorem dX3_look_77 : decode cX3_look 77 = .ok (.iconst 4, 1) := by decide +kernel
theorem dX3_look_78 : decode cX3_look 78 = .ok (.if_icmp .ge 26, 3) := by decide +kernel
theorem dX3_look_81 : decode cX3_look 81 = .ok (.aload_n 0, 1) := by decide +kernel
theorem dX3_look_82 : decode cX3_look 82 = .ok (.getfield 20, 3) := by decide +kernel
theorem dX3_look_85 : decode cX3_look 85 = .ok (.iload_n 3, 1) := by decide +kernel
theorem dX3_look_86 : decode cX3_look 86 = .ok (.aaload, 1) := by decide +kernel
theorem dX3_look_87 : decode cX3_look 87 = .ok (.aload_n 0, 1) := by decide +kernel
theorem dX3_look_88 : decode cX3_look 88 = .ok (.getfield 47, 3) := by decide +kernel
theorem dX3_look_91 : decode cX3_look 91 = .ok (.iload 4, 2) := by decide +kernel
theorem dX3_look_93 : decode cX3_look 93 = .ok (.iastore, 1) := by decide +kernel
theorem dX3_look_94 : decode cX3_look 94 = .ok (.aload_n 0, 1) := by decide +kernel
theorem dX3_look_95 : decode cX3_look 95 = .ok (.dup, 1) := by decide +kernel
theorem dX3_look_96 : decode cX3_look 96 = .ok (.getfield 47, 3) := by decide +kernel
theorem dX3_look_99 : decode cX3_look 99 = .ok (.iconst 1, 1) := by decide +kernel
theorem dX3_look_100 : decode cX3_look 100 = .ok (.iadd, 1) := by decide +kernel
theorem dX3_look_101 : decode cX3_look 101 = .ok (.putfield 47, 3) := by decide +kernel
theorem dX3_look_104 : decode cX3_look 104 = .ok (.iinc 4 1, 3) := by decide +kernel
theorem dX3_look_107 : decode cX3_look 107 = .ok (.goto (-52), 3) := by decide +kernel
theorem dX3_look_110 : decode cX3_look 110 = .ok (.iinc 3 1, 3) := by decide +kernel
theorem dX3_look_113 : decode cX3_look 113 = .ok (.goto (-111), 3) := by decide +kernel
theorem dX3_look_116 : decode cX3_look 116 = .ok (.return_, 1) := by decide +kernel
theorem dX3_isOneOfOldest_0 : decode cX3_isOneOfOldest 0 = .ok (.iconst 0, 1) := by decide +kernel
theorem dX3_isOneOfOldest_1 : decode cX3_isOneOfOldest 1 = .ok (.istore 4, 2) := by decide +kernel
theorem dX3_isOneOfOldest_3 : decode cX3_isOneOfOldest 3 = .ok (.iconst 0, 1) := by decide +kernel
theorem dX3_isOneOfOldest_4 : decode cX3_isOneOfOldest 4 = .ok (.istore 5, 2) := by decide +kernel
theorem dX3_isOneOfOldest_6 : decode cX3_isOneOfOldest 6 = .ok (.iload 5, 2) := by decide +kernel
theorem dX3_isOneOfOldest_8 : decode cX3_isOneOfOldest 8 = .ok (.bipush 16, 2) := by decide +kernel
theorem dX3_isOneOfOldest_10 : decode cX3_isOneOfOldest 10 = .ok (.if_icmp .ge 79, 3) := by decide +kernel
theorem dX3_isOneOfOldest_13 : decode cX3_isOneOfOldest 13 = .ok (.aload_n 0, 1) := by decide +kernel
theorem dX3_isOneOfOldest_14 : decode cX3_isOneOfOldest 14 = .ok (.getfield 17, 3) := by decide +kernel
theorem dX3_isOneOfOldest_17 : decode cX3_isOneOfOldest 17 = .ok (.iload_n 1, 1) := by decide +kernel
theorem dX3_isOneOfOldest_18 : decode cX3_isOneOfOldest 18 = .ok (.aaload, 1) := by decide +kernel
theorem dX3_isOneOfOldest_19 : decode cX3_isOneOfOldest 19 = .ok (.iload 5, 2) := by decide +kernel
theorem dX3_isOneOfOldest_21 : decode cX3_isOneOfOldest 21 = .ok (.iaload, 1) := by decide +kernel
theorem dX3_isOneOfOldest_22 : decode cX3_isOneOfOldest 22 = .ok (.aload_n 0, 1) := by decide +kernel
theorem dX3_isOneOfOldest_23 : decode cX3_isOneOfOldest 23 = .ok (.getfield 17, 3) := by decide +kernel
theorem dX3_isOneOfOldest_26 : decode cX3_isOneOfOldest 26 = .ok (.iload_n 1, 1) := by decide +kernel
theorem dX3_isOneOfOldest_27 : decode cX3_isOneOfOldest 27 = .ok (.aaload, 1) := by decide +kernel
theorem dX3_isOneOfOldest_28 : decode cX3_isOneOfOldest 28 = .ok (.iload_n 2, 1) := by decide +kernel
theorem dX3_isOneOfOldest_29 : decode cX3_isOneOfOldest 29 = .ok (.iaload, 1) := by decide +kernel
theorem dX3_isOneOfOldest_30 : decode cX3_isOneOfOldest 30 = .ok (.if_icmp .lt 29, 3) := by decide +kernel
theorem dX3_isOneOfOldest_33 : decode cX3_isOneOfOldest 33 = .ok (.aload_n 0, 1) := by decide +kernel
theorem dX3_isOneOfOldest_34 : decode cX3_isOneOfOldest 34 = .ok (.getfield 17, 3) := by decide +kernel
theorem dX3_isOneOfOldest_37 : decode cX3_isOneOfOldest 37 = .ok (.iload_n 1, 1) := by decide +kernel
theorem dX3_isOneOfOldest_38 : decode cX3_isOneOfOldest 38 = .ok (.aaload, 1) := by decide +kernel
theorem dX3_isOneOfOldest_39 : decode cX3_isOneOfOldest 39 = .ok (.iload 5, 2) := by decide +kernel
theorem dX3_isOneOfOldest_41 : decode cX3_isOneOfOldest 41 = .ok (.iaload, 1) := by decide +kernel
theorem dX3_isOneOfOldest_42 : decode cX3_isOneOfOldest 42 = .ok (.aload_n 0, 1) := by decide +kernel
theorem dX3_isOneOfOldest_43 : decode cX3_isOneOfOldest 43 = .ok (.getfield 17, 3) := by decide +kernel
theorem dX3_isOneOfOldest_46 : decode cX3_isOneOfOldest 46 = .ok (.iload_n 1, 1) := by decide +kernel
theorem dX3_isOneOfOldest_47 : decode cX3_isOneOfOldest 47 = .ok (.aaload, 1) := by decide +kernel
theorem dX3_isOneOfOldest_48 : decode cX3_isOneOfOldest 48 = .ok (.iload_n 2, 1) := by decide +kernel
theorem dX3_isOneOfOldest_49 : decode cX3_isOneOfOldest 49 = .ok (.iaload, 1) := by decide +kernel
theorem dX3_isOneOfOldest_50 : decode cX3_isOneOfOldest 50 = .ok (.if_icmp .ne 13, 3) := by decide +kernel
theorem dX3_isOneOfOldest_53 : decode cX3_isOneOfOldest 53 = .ok (.iload 5, 2) := by decide +kernel
theorem dX3_isOneOfOldest_55 : decode cX3_isOneOfOldest 55 = .ok (.iload_n 2, 1) := by decide +kernel
theorem dX3_isOneOfOldest_56 : decode cX3_isOneOfOldest 56 = .ok (.if_icmp .ge 7, 3) := by decide +kernel
theorem dX3_isOneOfOldest_59 : decode cX3_isOneOfOldest 59 = .ok (.iconst 1, 1) := by decide +kernel
theorem dX3_isOneOfOldest_60 : decode cX3_isOneOfOldest 60 = .ok (.goto 4, 3) := by decide +kernel
theorem dX3_isOneOfOldest_63 : decode cX3_isOneOfOldest 63 = .ok (.iconst 0, 1) := by decide +kernel
theorem dX3_isOneOfOldest_64 : decode cX3_isOneOfOldest 64 = .ok (.istore 6, 2) := by decide +kernel
theorem dX3_isOneOfOldest_66 : decode cX3_isOneOfOldest 66 = .ok (.iload 6, 2) := by decide +kernel
theorem dX3_isOneOfOldest_68 : decode cX3_isOneOfOldest 68 = .ok (.ifCond .eq 15, 3) := by decide +kernel
theorem dX3_isOneOfOldest_71 : decode cX3_isOneOfOldest 71 = .ok (.iload_n 3, 1) := by decide +kernel
theorem dX3_isOneOfOldest_72 : decode cX3_isOneOfOldest 72 = .ok (.iload 5, 2) := by decide +kernel
theorem dX3_isOneOfOldest_74 : decode cX3_isOneOfOldest 74 = .ok (.ishr, 1) := by decide +kernel
theorem dX3_isOneOfOldest_75 : decode cX3_isOneOfOldest 75 = .ok (.iconst 1, 1) := by decide +kernel
theorem dX3_isOneOfOldest_76 : decode cX3_isOneOfOldest 76 = .ok (.iand, 1) := by decide +kernel
theorem dX3_isOneOfOldest_77 : decode cX3_isOneOfOldest 77 = .ok (.ifCond .eq 6, 3) := by decide +kernel
theorem dX3_isOneOfOldest_80 : decode cX3_isOneOfOldest 80 = .ok (.iinc 4 1, 3) := by decide +kernel
theorem dX3_isOneOfOldest_83 : decode cX3_isOneOfOldest 83 = .ok (.iinc 5 1, 3) := by decide +kernel
theorem dX3_isOneOfOldest_86 : decode cX3_isOneOfOldest 86 = .ok (.goto (-80), 3) := by decide +kernel
theorem dX3_isOneOfOldest_89 : decode cX3_isOneOfOldest 89 = .ok (.iload_n 3, 1) := by decide +kernel
theorem dX3_isOneOfOldest_90 : decode cX3_isOneOfOldest 90 = .ok (.iload_n 2, 1) := by decide +kernel
theorem dX3_isOneOfOldest_91 : decode cX3_isOneOfOldest 91 = .ok (.ishr, 1) := by decide +kernel
theorem dX3_isOneOfOldest_92 : decode cX3_isOneOfOldest 92 = .ok (.iconst 1, 1) := by decide +kernel
theorem dX3_isOneOfOldest_93 : decode cX3_isOneOfOldest 93 = .ok (.iand, 1) := by decide +kernel
theorem dX3_isOneOfOldest_94 : decode cX3_isOneOfOldest 94 = .ok (.ifCond .eq 16, 3) := by decide +kernel
theorem dX3_isOneOfOldest_97 : decode cX3_isOneOfOldest 97 = .ok (.iload 4, 2) := by decide +kernel
theorem dX3_isOneOfOldest_99 : decode cX3_isOneOfOldest 99 = .ok (.aload_n 0, 1) := by decide +kernel
theorem dX3_isOneOfOldest_100 : decode cX3_isOneOfOldest 100 = .ok (.getfield 35, 3) := by decide +kernel
theorem dX3_isOneOfOldest_103 : decode cX3_isOneOfOldest 103 = .ok (.if_icmp .ge 7, 3) := by decide +kernel
theorem dX3_isOneOfOldest_106 : decode cX3_isOneOfOldest 106 = .ok (.iconst 1, 1) := by decide +kernel
theorem dX3_isOneOfOldest_107 : decode cX3_isOneOfOldest 107 = .ok (.goto 4, 3) := by decide +kernel
theorem dX3_isOneOfOldest_110 : decode cX3_isOneOfOldest 110 = .ok (.iconst 0, 1) := by decide +kernel
theorem dX3_isOneOfOldest_111 : decode cX3_isOneOfOldest 111 = .ok (.ireturn, 1) := by decide +kernel
theorem dX3_search_0 : decode cX3_search 0 = .ok (.iconst 1, 1) := by decide +kernel
theorem dX3_search_1 : decode cX3_search 1 = .ok (.istore_n 1, 1) := by decide +kernel
theorem dX3_search_2 : decode cX3_search 2 = .ok (.iconst 0, 1) := by decide +kernel
theorem dX3_search_3 : decode cX3_search 3 = .ok (.istore_n 2, 1) := by decide +kernel
theorem dX3_search_4 : decode cX3_search 4 = .ok (.iload_n 2, 1) := by decide +kernel
theorem dX3_search_5 : decode cX3_search 5 = .ok (.aload_n 0, 1) := by decide +kernel
theorem dX3_search_6 : decode cX3_search 6 = .ok (.getfield 35, 3) := by decide +kernel
theorem dX3_search_9 : decode cX3_search 9 = .ok (.if_icmp .ge 16, 3) := by decide +kernel
theorem dX3_search_12 : decode cX3_search 12 = .ok (.iload_n 1, 1) := by decide +kernel
theorem dX3_search_13 : decode cX3_search 13 = .ok (.aload_n 0, 1) := by decide +kernel
theorem dX3_search_14 : decode cX3_search 14 = .ok (.getfield 47, 3) := by decide +kernel
theorem dX3_search_17 : decode cX3_search 17 = .ok (.imul, 1) := by decide +kernel
theorem dX3_search_18 : decode cX3_search 18 = .ok (.istore_n 1, 1) := by decide +kernel
theorem dX3_search_19 : decode cX3_search 19 = .ok (.iinc 2 1, 3) := by decide +kernel
theorem dX3_search_22 : decode cX3_search 22 = .ok (.goto (-18), 3) := by decide +kernel
theorem dX3_search_25 : decode cX3_search 25 = .ok (.iconst (-1), 1) := by decide +kernel
theorem dX3_search_26 : decode cX3_search 26 = .ok (.istore_n 2, 1) := by decide +kernel
theorem dX3_search_27 : decode cX3_search 27 = .ok (.iconst 0, 1) := by decide +kernel
theorem dX3_search_28 : decode cX3_search 28 = .ok (.istore_n 3, 1) := by decide +kernel
theorem dX3_search_29 : decode cX3_search 29 = .ok (.iload_n 3, 1) := by decide +kernel
theorem dX3_search_30 : decode cX3_search 30 = .ok (.iload_n 1, 1) := by decide +kernel
theorem dX3_search_31 : decode cX3_search 31 = .ok (.if_icmp .ge 33, 3) := by decide +kernel
theorem dX3_search_34 : decode cX3_search 34 = .ok (.aload_n 0, 1) := by decide +kernel
theorem dX3_search_35 : decode cX3_search 35 = .ok (.iload_n 3, 1) := by decide +kernel
theorem dX3_search_36 : decode cX3_search 36 = .ok (.invokevirtual 54, 3) := by decide +kernel
theorem dX3_search_39 : decode cX3_search 39 = .ok (.aload_n 0, 1) := by decide +kernel
theorem dX3_search_40 : decode cX3_search 40 = .ok (.invokevirtual 58, 3) := by decide +kernel
theorem dX3_search_43 : decode cX3_search 43 = .ok (.istore 4, 2) := by decide +kernel
theorem dX3_search_45 : decode cX3_search 45 = .ok (.iload 4, 2) := by decide +kernel
theorem dX3_search_47 : decode cX3_search 47 = .ok (.iload_n 2, 1) := by decide +kernel
theorem dX3_search_48 : decode cX3_search 48 = .ok (.if_icmp .le 10, 3) := by decide +kernel
theorem dX3_search_51 : decode cX3_search 51 = .ok (.iload 4, 2) := by decide +kernel
theorem dX3_search_53 : decode cX3_search 53 = .ok (.istore_n 2, 1) := by decide +kernel
theorem dX3_search_54 : decode cX3_search 54 = .ok (.aload_n 0, 1) := by decide +kernel
theorem dX3_search_55 : decode cX3_search 55 = .ok (.invokevirtual 62, 3) := by decide +kernel
theorem dX3_search_58 : decode cX3_search 58 = .ok (.iinc 3 1, 3) := by decide +kernel
theorem dX3_search_61 : decode cX3_search 61 = .ok (.goto (-32), 3) := by decide +kernel
theorem dX3_search_64 : decode cX3_search 64 = .ok (.iload_n 2, 1) := by decide +kernel
theorem dX3_search_65 : decode cX3_search 65 = .ok (.ireturn, 1) := by decide +kernel
theorem dX3_choose_0 : decode cX3_choose 0 = .ok (.iload_n 1, 1) := by decide +kernel
theorem dX3_choose_1 : decode cX3_choose 1 = .ok (.istore_n 2, 1) := by decide +kernel
theorem dX3_choose_2 : decode cX3_choose 2 = .ok (.aload_n 0, 1) := by decide +kernel
theorem dX3_choose_3 : decode cX3_choose 3 = .ok (.getfield 35, 3) := by decide +kernel
theorem dX3_choose_6 : decode cX3_choose 6 = .ok (.iconst 1, 1) := by decide +kernel
theorem dX3_choose_7 : decode cX3_choose 7 = .ok (.isub, 1) := by decide +kernel
theorem dX3_choose_8 : decode cX3_choose 8 = .ok (.istore_n 3, 1) := by decide +kernel
theorem dX3_choose_9 : decode cX3_choose 9 = .ok (.iload_n 3, 1) := by decide +kernel
theorem dX3_choose_10 : decode cX3_choose 10 = .ok (.ifCond .lt 42, 3) := by decide +kernel
theorem dX3_choose_13 : decode cX3_choose 13 = .ok (.aload_n 0, 1) := by decide +kernel
theorem dX3_choose_14 : decode cX3_choose 14 = .ok (.getfield 47, 3) := by decide +kernel
theorem dX3_choose_17 : decode cX3_choose 17 = .ok (.ifCond .le 35, 3) := by decide +kernel
theorem dX3_choose_20 : decode cX3_choose 20 = .ok (.aload_n 0, 1) := by decide +kernel
theorem dX3_choose_21 : decode cX3_choose 21 = .ok (.getfield 23, 3) := by decide +kernel
theorem dX3_choose_24 : decode cX3_choose 24 = .ok (.iload_n 3, 1) := by decide +kernel
theorem dX3_choose_25 : decode cX3_choose 25 = .ok (.aload_n 0, 1) := by decide +kernel
theorem dX3_choose_26 : decode cX3_choose 26 = .ok (.getfield 20, 3) := by decide +kernel
theorem dX3_choose_29 : decode cX3_choose 29 = .ok (.iload_n 3, 1) := by decide +kernel
theorem dX3_choose_30 : decode cX3_choose 30 = .ok (.aaload, 1) := by decide +kernel
theorem dX3_choose_31 : decode cX3_choose 31 = .ok (.iload_n 2, 1) := by decide +kernel
theorem dX3_choose_32 : decode cX3_choose 32 = .ok (.aload_n 0, 1) := by decide +kernel
theorem dX3_choose_33 : decode cX3_choose 33 = .ok (.getfield 47, 3) := by decide +kernel
theorem dX3_choose_36 : decode cX3_choose 36 = .ok (.irem, 1) := by decide +kernel
theorem dX3_choose_37 : decode cX3_choose 37 = .ok (.iaload, 1) := by decide +kernel
theorem dX3_choose_38 : decode cX3_choose 38 = .ok (.iastore, 1) := by decide +kernel
theorem dX3_choose_39 : decode cX3_choose 39 = .ok (.iload_n 2, 1) := by decide +kernel
theorem dX3_choose_40 : decode cX3_choose 40 = .ok (.aload_n 0, 1) := by decide +kernel
theorem dX3_choose_41 : decode cX3_choose 41 = .ok (.getfield 47, 3) := by decide +kernel
theorem dX3_choose_44 : decode cX3_choose 44 = .ok (.idiv, 1) := by decide +kernel
theorem dX3_choose_45 : decode cX3_choose 45 = .ok (.istore_n 2, 1) := by decide +kernel
theorem dX3_choose_46 : decode cX3_choose 46 = .ok (.iinc 3 (-1), 3) := by decide +kernel
theorem dX3_choose_49 : decode cX3_choose 49 = .ok (.goto (-40), 3) := by decide +kernel
theorem dX3_choose_52 : decode cX3_choose 52 = .ok (.return_, 1) := by decide +kernel
theorem dX3_worthOfChosen_0 : decode cX3_worthOfChosen 0 = .ok (.iconst 0, 1) := by decide +kernel
theorem dX3_worthOfChosen_1 : decode cX3_worthOfChosen 1 = .ok (.istore_n 1, 1) := by decide +kernel
theorem dX3_worthOfChosen_2 : decode cX3_worthOfChosen 2 = .ok (.iconst 0, 1) := by decide +kernel
theorem dX3_worthOfChosen_3 : decode cX3_worthOfChosen 3 = .ok (.istore_n 2, 1) := by decide +kernel
theorem dX3_worthOfChosen_4 : decode cX3_worthOfChosen 4 = .ok (.iload_n 2, 1) := by decide +kernel
theorem dX3_worthOfChosen_5 : decode cX3_worthOfChosen 5 = .ok (.aload_n 0, 1) := by decide +kernel
theorem dX3_worthOfChosen_6 : decode cX3_worthOfChosen 6 = .ok (.getfield 35, 3) := by decide +kernel
theorem dX3_worthOfChosen_9 : decode cX3_worthOfChosen 9 = .ok (.if_icmp .ge 84, 3) := by decide +kernel
theorem dX3_worthOfChosen_12 : decode cX3_worthOfChosen 12 = .ok (.aload_n 0, 1) := by decide +kernel
theorem dX3_worthOfChosen_13 : decode cX3_worthOfChosen 13 = .ok (.getfield 17, 3) := by decide +kernel
theorem dX3_worthOfChosen_16 : decode cX3_worthOfChosen 16 = .ok (.iload_n 2, 1) := by decide +kernel
theorem dX3_worthOfChosen_17 : decode cX3_worthOfChosen 17 = .ok (.aaload, 1) := by decide +kernel
theorem dX3_worthOfChosen_18 : decode cX3_worthOfChosen 18 = .ok (.aload_n 0, 1) := by decide +kernel
theorem dX3_worthOfChosen_19 : decode cX3_worthOfChosen 19 = .ok (.getfield 23, 3) := by decide +kernel
theorem dX3_worthOfChosen_22 : decode cX3_worthOfChosen 22 = .ok (.iload_n 2, 1) := by decide +kernel
theorem dX3_worthOfChosen_23 : decode cX3_worthOfChosen 23 = .ok (.iaload, 1) := by decide +kernel
theorem dX3_worthOfChosen_24 : decode cX3_worthOfChosen 24 = .ok (.iaload, 1) := by decide +kernel
theorem dX3_worthOfChosen_25 : decode cX3_worthOfChosen 25 = .ok (.istore_n 3, 1) := by decide +kernel
theorem dX3_worthOfChosen_26 : decode cX3_worthOfChosen 26 = .ok (.iconst 0, 1) := by decide +kernel
theorem dX3_worthOfChosen_27 : decode cX3_worthOfChosen 27 = .ok (.istore 4, 2) := by decide +kernel
theorem dX3_worthOfChosen_29 : decode cX3_worthOfChosen 29 = .ok (.iload 4, 2) := by decide +kernel
theorem dX3_worthOfChosen_31 : decode cX3_worthOfChosen 31 = .ok (.iload_n 2, 1) := by decide +kernel
theorem dX3_worthOfChosen_32 : decode cX3_worthOfChosen 32 = .ok (.if_icmp .ge 44, 3) := by decide +kernel
theorem dX3_worthOfChosen_35 : decode cX3_worthOfChosen 35 = .ok (.aload_n 0, 1) := by decide +kernel
theorem dX3_worthOfChosen_36 : decode cX3_worthOfChosen 36 = .ok (.getfield 23, 3) := by decide +kernel
theorem dX3_worthOfChosen_39 : decode cX3_worthOfChosen 39 = .ok (.iload 4, 2) := by decide +kernel
theorem dX3_worthOfChosen_41 : decode cX3_worthOfChosen 41 = .ok (.iaload, 1) := by decide +kernel
theorem dX3_worthOfChosen_42 : decode cX3_worthOfChosen 42 = .ok (.aload_n 0, 1) := by decide +kernel
theorem dX3_worthOfChosen_43 : decode cX3_worthOfChosen 43 = .ok (.getfield 23, 3) := by decide +kernel
theorem dX3_worthOfChosen_46 : decode cX3_worthOfChosen 46 = .ok (.iload_n 2, 1) := by decide +kernel
theorem dX3_worthOfChosen_47 : decode cX3_worthOfChosen 47 = .ok (.iaload, 1) := by decide +kernel
theorem dX3_worthOfChosen_48 : decode cX3_worthOfChosen 48 = .ok (.if_icmp .ne 22, 3) := by decide +kernel
theorem dX3_worthOfChosen_51 : decode cX3_worthOfChosen 51 = .ok (.iload_n 3, 1) := by decide +kernel
theorem dX3_worthOfChosen_52 : decode cX3_worthOfChosen 52 = .ok (.aload_n 0, 1) := by decide +kernel
theorem dX3_worthOfChosen_53 : decode cX3_worthOfChosen 53 = .ok (.getfield 9, 3) := by decide +kernel
theorem dX3_worthOfChosen_56 : decode cX3_worthOfChosen 56 = .ok (.iload 4, 2) := by decide +kernel
theorem dX3_worthOfChosen_58 : decode cX3_worthOfChosen 58 = .ok (.iaload, 1) := by decide +kernel
theorem dX3_worthOfChosen_59 : decode cX3_worthOfChosen 59 = .ok (.aload_n 0, 1) := by decide +kernel
theorem dX3_worthOfChosen_60 : decode cX3_worthOfChosen 60 = .ok (.getfield 39, 3) := by decide +kernel
theorem dX3_worthOfChosen_63 : decode cX3_worthOfChosen 63 = .ok (.iadd, 1) := by decide +kernel
theorem dX3_worthOfChosen_64 : decode cX3_worthOfChosen 64 = .ok (.iconst 1, 1) := by decide +kernel
theorem dX3_worthOfChosen_65 : decode cX3_worthOfChosen 65 = .ok (.isub, 1) := by decide +kernel
theorem dX3_worthOfChosen_66 : decode cX3_worthOfChosen 66 = .ok (.invokestatic 65, 3) := by decide +kernel
theorem dX3_worthOfChosen_69 : decode cX3_worthOfChosen 69 = .ok (.istore_n 3, 1) := by decide +kernel
theorem dX3_worthOfChosen_70 : decode cX3_worthOfChosen 70 = .ok (.iinc 4 1, 3) := by decide +kernel
theorem dX3_worthOfChosen_73 : decode cX3_worthOfChosen 73 = .ok (.goto (-44), 3) := by decide +kernel
theorem dX3_worthOfChosen_76 : decode cX3_worthOfChosen 76 = .ok (.iload_n 1, 1) := by decide +kernel
theorem dX3_worthOfChosen_77 : decode cX3_worthOfChosen 77 = .ok (.aload_n 0, 1) := by decide +kernel
theorem dX3_worthOfChosen_78 : decode cX3_worthOfChosen 78 = .ok (.getfield 9, 3) := by decide +kernel
theorem dX3_worthOfChosen_81 : decode cX3_worthOfChosen 81 = .ok (.iload_n 2, 1) := by decide +kernel
theorem dX3_worthOfChosen_82 : decode cX3_worthOfChosen 82 = .ok (.iaload, 1) := by decide +kernel
theorem dX3_worthOfChosen_83 : decode cX3_worthOfChosen 83 = .ok (.iload_n 3, 1) := by decide +kernel
theorem dX3_worthOfChosen_84 : decode cX3_worthOfChosen 84 = .ok (.isub, 1) := by decide +kernel
theorem dX3_worthOfChosen_85 : decode cX3_worthOfChosen 85 = .ok (.iadd, 1) := by decide +kernel
theorem dX3_worthOfChosen_86 : decode cX3_worthOfChosen 86 = .ok (.istore_n 1, 1) := by decide +kernel
theorem dX3_worthOfChosen_87 : decode cX3_worthOfChosen 87 = .ok (.iinc 2 1, 3) := by decide +kernel
theorem dX3_worthOfChosen_90 : decode cX3_worthOfChosen 90 = .ok (.goto (-86), 3) := by decide +kernel
theorem dX3_worthOfChosen_93 : decode cX3_worthOfChosen 93 = .ok (.iload_n 1, 1) := by decide +kernel
theorem dX3_worthOfChosen_94 : decode cX3_worthOfChosen 94 = .ok (.ireturn, 1) := by decide +kernel
theorem dX3_keepChosen_0 : decode cX3_keepChosen 0 = .ok (.iconst 0, 1) := by decide +kernel
theorem dX3_keepChosen_1 : decode cX3_keepChosen 1 = .ok (.istore_n 1, 1) := by decide +kernel
theorem dX3_keepChosen_2 : decode cX3_keepChosen 2 = .ok (.iload_n 1, 1) := by decide +kernel
theorem dX3_keepChosen_3 : decode cX3_keepChosen 3 = .ok (.aload_n 0, 1) := by decide +kernel
theorem dX3_keepChosen_4 : decode cX3_keepChosen 4 = .ok (.getfield 35, 3) := by decide +kernel
theorem dX3_keepChosen_7 : decode cX3_keepChosen 7 = .ok (.if_icmp .ge 21, 3) := by decide +kernel
theorem dX3_keepChosen_10 : decode cX3_keepChosen 10 = .ok (.aload_n 0, 1) := by decide +kernel
theorem dX3_keepChosen_11 : decode cX3_keepChosen 11 = .ok (.getfield 26, 3) := by decide +kernel
theorem dX3_keepChosen_14 : decode cX3_keepChosen 14 = .ok (.iload_n 1, 1) := by decide +kernel
theorem dX3_keepChosen_15 : decode cX3_keepChosen 15 = .ok (.aload_n 0, 1) := by decide +kernel
theorem dX3_keepChosen_16 : decode cX3_keepChosen 16 = .ok (.getfield 23, 3) := by decide +kernel
theorem dX3_keepChosen_19 : decode cX3_keepChosen 19 = .ok (.iload_n 1, 1) := by decide +kernel
theorem dX3_keepChosen_20 : decode cX3_keepChosen 20 = .ok (.iaload, 1) := by decide +kernel
theorem dX3_keepChosen_21 : decode cX3_keepChosen 21 = .ok (.iastore, 1) := by decide +kernel
theorem dX3_keepChosen_22 : decode cX3_keepChosen 22 = .ok (.iinc 1 1, 3) := by decide +kernel
theorem dX3_keepChosen_25 : decode cX3_keepChosen 25 = .ok (.goto (-23), 3) := by decide +kernel
theorem dX3_keepChosen_28 : decode cX3_keepChosen 28 = .ok (.return_, 1) := by decide +kernel
