theorem dX4_init_0 : decode cX4_init 0 = .ok (.aload_n 0, 1) := by decide +kernel
theorem dX4_init_1 : decode cX4_init 1 = .ok (.invokespecial 3, 3) := by decide +kernel
theorem dX4_init_4 : decode cX4_init 4 = .ok (.aload_n 0, 1) := by decide +kernel
theorem dX4_init_5 : decode cX4_init 5 = .ok (.bipush 6, 2) := by decide +kernel
theorem dX4_init_7 : decode cX4_init 7 = .ok (.newarray .int, 2) := by decide +kernel
theorem dX4_init_9 : decode cX4_init 9 = .ok (.putfield 9, 3) := by decide +kernel
theorem dX4_init_12 : decode cX4_init 12 = .ok (.aload_n 0, 1) := by decide +kernel
theorem dX4_init_13 : decode cX4_init 13 = .ok (.bipush 6, 2) := by decide +kernel
theorem dX4_init_15 : decode cX4_init 15 = .ok (.newarray .int, 2) := by decide +kernel
theorem dX4_init_17 : decode cX4_init 17 = .ok (.putfield 15, 3) := by decide +kernel
theorem dX4_init_20 : decode cX4_init 20 = .ok (.return_, 1) := by decide +kernel
theorem dX4_add_0 : decode cX4_add 0 = .ok (.aload_n 0, 1) := by decide +kernel
theorem dX4_add_1 : decode cX4_add 1 = .ok (.getfield 18, 3) := by decide +kernel
theorem dX4_add_4 : decode cX4_add 4 = .ok (.bipush 6, 2) := by decide +kernel
theorem dX4_add_6 : decode cX4_add 6 = .ok (.if_icmp .lt 5, 3) := by decide +kernel
theorem dX4_add_9 : decode cX4_add 9 = .ok (.iconst (-1), 1) := by decide +kernel
theorem dX4_add_10 : decode cX4_add 10 = .ok (.ireturn, 1) := by decide +kernel
theorem dX4_add_11 : decode cX4_add 11 = .ok (.aload_n 0, 1) := by decide +kernel
theorem dX4_add_12 : decode cX4_add 12 = .ok (.getfield 9, 3) := by decide +kernel
theorem dX4_add_15 : decode cX4_add 15 = .ok (.aload_n 0, 1) := by decide +kernel
theorem dX4_add_16 : decode cX4_add 16 = .ok (.getfield 18, 3) := by decide +kernel
theorem dX4_add_19 : decode cX4_add 19 = .ok (.iload_n 1, 1) := by decide +kernel
theorem dX4_add_20 : decode cX4_add 20 = .ok (.iastore, 1) := by decide +kernel
theorem dX4_add_21 : decode cX4_add 21 = .ok (.aload_n 0, 1) := by decide +kernel
theorem dX4_add_22 : decode cX4_add 22 = .ok (.getfield 15, 3) := by decide +kernel
theorem dX4_add_25 : decode cX4_add 25 = .ok (.aload_n 0, 1) := by decide +kernel
theorem dX4_add_26 : decode cX4_add 26 = .ok (.getfield 18, 3) := by decide +kernel
theorem dX4_add_29 : decode cX4_add 29 = .ok (.iload_n 2, 1) := by decide +kernel
theorem dX4_add_30 : decode cX4_add 30 = .ok (.iastore, 1) := by decide +kernel
theorem dX4_add_31 : decode cX4_add 31 = .ok (.aload_n 0, 1) := by decide +kernel
theorem dX4_add_32 : decode cX4_add 32 = .ok (.dup, 1) := by decide +kernel
theorem dX4_add_33 : decode cX4_add 33 = .ok (.getfield 18, 3) := by decide +kernel
theorem dX4_add_36 : decode cX4_add 36 = .ok (.iconst 1, 1) := by decide +kernel
theorem dX4_add_37 : decode cX4_add 37 = .ok (.iadd, 1) := by decide +kernel
theorem dX4_add_38 : decode cX4_add 38 = .ok (.putfield 18, 3) := by decide +kernel
theorem dX4_add_41 : decode cX4_add 41 = .ok (.aload_n 0, 1) := by decide +kernel
theorem dX4_add_42 : decode cX4_add 42 = .ok (.getfield 18, 3) := by decide +kernel
theorem dX4_add_45 : decode cX4_add 45 = .ok (.iconst 1, 1) := by decide +kernel
theorem dX4_add_46 : decode cX4_add 46 = .ok (.isub, 1) := by decide +kernel
theorem dX4_add_47 : decode cX4_add 47 = .ok (.ireturn, 1) := by decide +kernel
theorem dX5_init_0 : decode cX5_init 0 = .ok (.aload_n 0, 1) := by decide +kernel
theorem dX5_init_1 : decode cX5_init 1 = .ok (.invokespecial 3, 3) := by decide +kernel
theorem dX5_init_4 : decode cX5_init 4 = .ok (.aload_n 0, 1) := by decide +kernel
theorem dX5_init_5 : decode cX5_init 5 = .ok (.bipush 10, 2) := by decide +kernel
theorem dX5_init_7 : decode cX5_init 7 = .ok (.newarray .int, 2) := by decide +kernel
theorem dX5_init_9 : decode cX5_init 9 = .ok (.putfield 9, 3) := by decide +kernel
theorem dX5_init_12 : decode cX5_init 12 = .ok (.aload_n 0, 1) := by decide +kernel
theorem dX5_init_13 : decode cX5_init 13 = .ok (.iconst (-1), 1) := by decide +kernel
theorem dX5_init_14 : decode cX5_init 14 = .ok (.putfield 15, 3) := by decide +kernel
theorem dX5_init_17 : decode cX5_init 17 = .ok (.aload_n 0, 1) := by decide +kernel
theorem dX5_init_18 : decode cX5_init 18 = .ok (.iconst (-1), 1) := by decide +kernel
theorem dX5_init_19 : decode cX5_init 19 = .ok (.putfield 19, 3) := by decide +kernel
theorem dX5_init_22 : decode cX5_init 22 = .ok (.return_, 1) := by decide +kernel
theorem dX5_read_0 : decode cX5_read 0 = .ok (.aload_n 0, 1) := by decide +kernel
theorem dX5_read_1 : decode cX5_read 1 = .ok (.iconst 0, 1) := by decide +kernel
theorem dX5_read_2 : decode cX5_read 2 = .ok (.putfield 15, 3) := by decide +kernel
theorem dX5_read_5 : decode cX5_read 5 = .ok (.aload_n 0, 1) := by decide +kernel
theorem dX5_read_6 : decode cX5_read 6 = .ok (.iconst (-1), 1) := by decide +kernel
theorem dX5_read_7 : decode cX5_read 7 = .ok (.putfield 19, 3) := by decide +kernel
theorem dX5_read_10 : decode cX5_read 10 = .ok (.aload_n 0, 1) := by decide +kernel
theorem dX5_read_11 : decode cX5_read 11 = .ok (.iconst 0, 1) := by decide +kernel
theorem dX5_read_12 : decode cX5_read 12 = .ok (.putfield 22, 3) := by decide +kernel
theorem dX5_read_15 : decode cX5_read 15 = .ok (.iconst 0, 1) := by decide +kernel
theorem dX5_read_16 : decode cX5_read 16 = .ok (.istore_n 2, 1) := by decide +kernel
theorem dX5_read_17 : decode cX5_read 17 = .ok (.iload_n 2, 1) := by decide +kernel
theorem dX5_read_18 : decode cX5_read 18 = .ok (.iconst 5, 1) := by decide +kernel
theorem dX5_read_19 : decode cX5_read 19 = .ok (.if_icmp .ge 33, 3) := by decide +kernel
theorem dX5_read_22 : decode cX5_read 22 = .ok (.aload_n 0, 1) := by decide +kernel
theorem dX5_read_23 : decode cX5_read 23 = .ok (.getfield 9, 3) := by decide +kernel
theorem dX5_read_26 : decode cX5_read 26 = .ok (.iconst 2, 1) := by decide +kernel
theorem dX5_read_27 : decode cX5_read 27 = .ok (.iload_n 2, 1) := by decide +kernel
theorem dX5_read_28 : decode cX5_read 28 = .ok (.imul, 1) := by decide +kernel
theorem dX5_read_29 : decode cX5_read 29 = .ok (.iconst 0, 1) := by decide +kernel
theorem dX5_read_30 : decode cX5_read 30 = .ok (.iastore, 1) := by decide +kernel
theorem dX5_read_31 : decode cX5_read 31 = .ok (.aload_n 0, 1) := by decide +kernel
theorem dX5_read_32 : decode cX5_read 32 = .ok (.getfield 9, 3) := by decide +kernel
theorem dX5_read_35 : decode cX5_read 35 = .ok (.iconst 2, 1) := by decide +kernel
theorem dX5_read_36 : decode cX5_read 36 = .ok (.iload_n 2, 1) := by decide +kernel
theorem dX5_read_37 : decode cX5_read 37 = .ok (.imul, 1) := by decide +kernel
theorem dX5_read_38 : decode cX5_read 38 = .ok (.iconst 1, 1) := by decide +kernel
theorem dX5_read_39 : decode cX5_read 39 = .ok (.iadd, 1) := by decide +kernel
theorem dX5_read_40 : decode cX5_read 40 = .ok (.getstatic 25, 3) := by decide +kernel
theorem dX5_read_43 : decode cX5_read 43 = .ok (.iload_n 2, 1) := by decide +kernel
theorem dX5_read_44 : decode cX5_read 44 = .ok (.iaload, 1) := by decide +kernel
theorem dX5_read_45 : decode cX5_read 45 = .ok (.iastore, 1) := by decide +kernel
theorem dX5_read_46 : decode cX5_read 46 = .ok (.iinc 2 1, 3) := by decide +kernel
theorem dX5_read_49 : decode cX5_read 49 = .ok (.goto (-32), 3) := by decide +kernel
theorem dX5_read_52 : decode cX5_read 52 = .ok (.aload_n 1, 1) := by decide +kernel
theorem dX5_read_53 : decode cX5_read 53 = .ok (.invokevirtual 28, 3) := by decide +kernel
theorem dX5_read_56 : decode cX5_read 56 = .ok (.iconst 0, 1) := by decide +kernel
theorem dX5_read_57 : decode cX5_read 57 = .ok (.istore_n 2, 1) := by decide +kernel
theorem dX5_read_58 : decode cX5_read 58 = .ok (.iload_n 2, 1) := by decide +kernel
theorem dX5_read_59 : decode cX5_read 59 = .ok (.iconst 4, 1) := by decide +kernel
theorem dX5_read_60 : decode cX5_read 60 = .ok (.if_icmp .gt 28, 3) := by decide +kernel
theorem dX5_read_63 : decode cX5_read 63 = .ok (.aload_n 0, 1) := by decide +kernel
theorem dX5_read_64 : decode cX5_read 64 = .ok (.getfield 15, 3) := by decide +kernel
theorem dX5_read_67 : decode cX5_read 67 = .ok (.ifCond .ne 21, 3) := by decide +kernel
theorem dX5_read_70 : decode cX5_read 70 = .ok (.aload_n 1, 1) := by decide +kernel
theorem dX5_read_71 : decode cX5_read 71 = .ok (.getfield 33, 3) := by decide +kernel
theorem dX5_read_74 : decode cX5_read 74 = .ok (.ifCond .eq 14, 3) := by decide +kernel
theorem dX5_read_77 : decode cX5_read 77 = .ok (.aload_n 0, 1) := by decide +kernel
theorem dX5_read_78 : decode cX5_read 78 = .ok (.aload_n 1, 1) := by decide +kernel
theorem dX5_read_79 : decode cX5_read 79 = .ok (.invokevirtual 36, 3) := by decide +kernel
theorem dX5_read_82 : decode cX5_read 82 = .ok (.iinc 2 1, 3) := by decide +kernel
theorem dX5_read_85 : decode cX5_read 85 = .ok (.goto (-27), 3) := by decide +kernel
theorem dX5_read_88 : decode cX5_read 88 = .ok (.return_, 1) := by decide +kernel
theorem dX5_readClause_0 : decode cX5_readClause 0 = .ok (.aload_n 1, 1) := by decide +kernel
theorem dX5_readClause_1 : decode cX5_readClause 1 = .ok (.invokestatic 40, 3) := by decide +kernel
theorem dX5_readClause_4 : decode cX5_readClause 4 = .ok (.istore_n 2, 1) := by decide +kernel
theorem dX5_readClause_5 : decode cX5_readClause 5 = .ok (.iload_n 2, 1) := by decide +kernel
theorem dX5_readClause_6 : decode cX5_readClause 6 = .ok (.iconst (-1), 1) := by decide +kernel
theorem dX5_readClause_7 : decode cX5_readClause 7 = .ok (.if_icmp .ne 12, 3) := by decide +kernel
theorem dX5_readClause_10 : decode cX5_readClause 10 = .ok (.aload_n 0, 1) := by decide +kernel
theorem dX5_readClause_11 : decode cX5_readClause 11 = .ok (.aload_n 1, 1) := by decide +kernel
theorem dX5_readClause_12 : decode cX5_readClause 12 = .ok (.iconst 1, 1) := by decide +kernel
theorem dX5_readClause_13 : decode cX5_readClause 13 = .ok (.invokevirtual 44, 3) := by decide +kernel
theorem dX5_readClause_16 : decode cX5_readClause 16 = .ok (.goto 62, 3) := by decide +kernel
theorem dX5_readClause_19 : decode cX5_readClause 19 = .ok (.aload_n 0, 1) := by decide +kernel
theorem dX5_readClause_20 : decode cX5_readClause 20 = .ok (.getfield 22, 3) := by decide +kernel
theorem dX5_readClause_23 : decode cX5_readClause 23 = .ok (.iload_n 2, 1) := by decide +kernel
theorem dX5_readClause_24 : decode cX5_readClause 24 = .ok (.ishr, 1) := by decide +kernel
theorem dX5_readClause_25 : decode cX5_readClause 25 = .ok (.iconst 1, 1) := by decide +kernel
theorem dX5_readClause_26 : decode cX5_readClause 26 = .ok (.iand, 1) := by decide +kernel
theorem dX5_readClause_27 : decode cX5_readClause 27 = .ok (.ifCond .eq 12, 3) := by decide +kernel
theorem dX5_readClause_30 : decode cX5_readClause 30 = .ok (.aload_n 0, 1) := by decide +kernel
theorem dX5_readClause_31 : decode cX5_readClause 31 = .ok (.aload_n 1, 1) := by decide +kernel
theorem dX5_readClause_32 : decode cX5_readClause 32 = .ok (.iconst 2, 1) := by decide +kernel
theorem dX5_readClause_33 : decode cX5_readClause 33 = .ok (.invokevirtual 44, 3) := by decide +kernel
theorem dX5_readClause_36 : decode cX5_readClause 36 = .ok (.goto 42, 3) := by decide +kernel
theorem dX5_readClause_39 : decode cX5_readClause 39 = .ok (.aload_n 0, 1) := by decide +kernel
theorem dX5_readClause_40 : decode cX5_readClause 40 = .ok (.dup, 1) := by decide +kernel
theorem dX5_readClause_41 : decode cX5_readClause 41 = .ok (.getfield 22, 3) := by decide +kernel
theorem dX5_readClause_44 : decode cX5_readClause 44 = .ok (.iconst 1, 1) := by decide +kernel
theorem dX5_readClause_45 : decode cX5_readClause 45 = .ok (.iload_n 2, 1) := by decide +kernel
theorem dX5_readClause_46 : decode cX5_readClause 46 = .ok (.ishl, 1) := by decide +kernel
theorem dX5_readClause_47 : decode cX5_readClause 47 = .ok (.ior, 1) := by decide +kernel
theorem dX5_readClause_48 : decode cX5_readClause 48 = .ok (.putfield 22, 3) := by decide +kernel
theorem dX5_readClause_51 : decode cX5_readClause 51 = .ok (.aload_n 1, 1) := by decide +kernel
theorem dX5_readClause_52 : decode cX5_readClause 52 = .ok (.invokevirtual 48, 3) := by decide +kernel
theorem dX5_readClause_55 : decode cX5_readClause 55 = .ok (.aload_n 0, 1) := by decide +kernel
theorem dX5_readClause_56 : decode cX5_readClause 56 = .ok (.aload_n 1, 1) := by decide +kernel
theorem dX5_readClause_57 : decode cX5_readClause 57 = .ok (.iload_n 2, 1) := by decide +kernel
theorem dX5_readClause_58 : decode cX5_readClause 58 = .ok (.invokevirtual 51, 3) := by decide +kernel
theorem dX5_readClause_61 : decode cX5_readClause 61 = .ok (.iload_n 2, 1) := by decide +kernel
theorem dX5_readClause_62 : decode cX5_readClause 62 = .ok (.iconst 3, 1) := by decide +kernel
theorem dX5_readClause_63 : decode cX5_readClause 63 = .ok (.if_icmp .ne 9, 3) := by decide +kernel
theorem dX5_readClause_66 : decode cX5_readClause 66 = .ok (.aload_n 0, 1) := by decide +kernel
theorem dX5_readClause_67 : decode cX5_readClause 67 = .ok (.aload_n 1, 1) := by decide +kernel
theorem dX5_readClause_68 : decode cX5_readClause 68 = .ok (.iconst 4, 1) := by decide +kernel
theorem dX5_readClause_69 : decode cX5_readClause 69 = .ok (.invokevirtual 51, 3) := by decide +kernel
theorem dX5_readClause_72 : decode cX5_readClause 72 = .ok (.aload_n 0, 1) := by decide +kernel
theorem dX5_readClause_73 : decode cX5_readClause 73 = .ok (.aload_n 1, 1) := by decide +kernel
theorem dX5_readClause_74 : decode cX5_readClause 74 = .ok (.iconst 4, 1) := by decide +kernel
theorem dX5_readClause_75 : decode cX5_readClause 75 = .ok (.invokevirtual 54, 3) := by decide +kernel
theorem dX5_readClause_78 : decode cX5_readClause 78 = .ok (.return_, 1) := by decide +kernel
theorem dX5_wordOf_0 : decode cX5_wordOf 0 = .ok (.aload_n 0, 1) := by decide +kernel
theorem dX5_wordOf_1 : decode cX5_wordOf 1 = .ok (.ldc 57, 2) := by decide +kernel
theorem dX5_wordOf_3 : decode cX5_wordOf 3 = .ok (.invokevirtual 59, 3) := by decide +kernel
theorem dX5_wordOf_6 : decode cX5_wordOf 6 = .ok (.ifCond .eq 5, 3) := by decide +kernel
theorem dX5_wordOf_9 : decode cX5_wordOf 9 = .ok (.iconst 0, 1) := by decide +kernel
theorem dX5_wordOf_10 : decode cX5_wordOf 10 = .ok (.ireturn, 1) := by decide +kernel
theorem dX5_wordOf_11 : decode cX5_wordOf 11 = .ok (.aload_n 0, 1) := by decide +kernel
theorem dX5_wordOf_12 : decode cX5_wordOf 12 = .ok (.ldc 63, 2) := by decide +kernel
theorem dX5_wordOf_14 : decode cX5_wordOf 14 = .ok (.invokevirtual 59, 3) := by decide +kernel
theorem dX5_wordOf_17 : decode cX5_wordOf 17 = .ok (.ifCond .eq 5, 3) := by decide +kernel
theorem dX5_wordOf_20 : decode cX5_wordOf 20 = .ok (.iconst 1, 1) := by decide +kernel
theorem dX5_wordOf_21 : decode cX5_wordOf 21 = .ok (.ireturn, 1) := by decide +kernel
theorem dX5_wordOf_22 : decode cX5_wordOf 22 = .ok (.aload_n 0, 1) := by decide +kernel
theorem dX5_wordOf_23 : decode cX5_wordOf 23 = .ok (.ldc 65, 2) := by decide +kernel
theorem dX5_wordOf_25 : decode cX5_wordOf 25 = .ok (.invokevirtual 59, 3) := by decide +kernel
theorem dX5_wordOf_28 : decode cX5_wordOf 28 = .ok (.ifCond .eq 5, 3) := by decide +kernel
theorem dX5_wordOf_31 : decode cX5_wordOf 31 = .ok (.iconst 2, 1) := by decide +kernel
theorem dX5_wordOf_32 : decode cX5_wordOf 32 = .ok (.ireturn, 1) := by decide +kernel
theorem dX5_wordOf_33 : decode cX5_wordOf 33 = .ok (.aload_n 0, 1) := by decide +kernel
theorem dX5_wordOf_34 : decode cX5_wordOf 34 = .ok (.ldc 67, 2) := by decide +kernel
theorem dX5_wordOf_36 : decode cX5_wordOf 36 = .ok (.invokevirtual 59, 3) := by decide +kernel
theorem dX5_wordOf_39 : decode cX5_wordOf 39 = .ok (.ifCond .eq 7, 3) := by decide +kernel
theorem dX5_wordOf_42 : decode cX5_wordOf 42 = .ok (.iconst 3, 1) := by decide +kernel
theorem dX5_wordOf_43 : decode cX5_wordOf 43 = .ok (.goto 4, 3) := by decide +kernel
theorem dX5_wordOf_46 : decode cX5_wordOf 46 = .ok (.iconst (-1), 1) := by decide +kernel
theorem dX5_wordOf_47 : decode cX5_wordOf 47 = .ok (.ireturn, 1) := by decide +kernel
theorem dX5_readRange_0 : decode cX5_readRange 0 = .ok (.aload_n 0, 1) := by decide +kernel
theorem dX5_readRange_1 : decode cX5_readRange 1 = .ok (.aload_n 1, 1) := by decide +kernel
theorem dX5_readRange_2 : decode cX5_readRange 2 = .ok (.iconst 2, 1) := by decide +kernel
theorem dX5_readRange_3 : decode cX5_readRange 3 = .ok (.iload_n 2, 1) := by decide +kernel
theorem dX5_readRange_4 : decode cX5_readRange 4 = .ok (.imul, 1) := by decide +kernel
theorem dX5_readRange_5 : decode cX5_readRange 5 = .ok (.iconst 0, 1) := by decide +kernel
theorem dX5_readRange_6 : decode cX5_readRange 6 = .ok (.getstatic 25, 3) := by decide +kernel
theorem dX5_readRange_9 : decode cX5_readRange 9 = .ok (.iload_n 2, 1) := by decide +kernel
theorem dX5_readRange_10 : decode cX5_readRange 10 = .ok (.iaload, 1) := by decide +kernel
theorem dX5_readRange_11 : decode cX5_readRange 11 = .ok (.invokevirtual 69, 3) := by decide +kernel
theorem dX5_readRange_14 : decode cX5_readRange 14 = .ok (.aload_n 0, 1) := by decide +kernel
theorem dX5_readRange_15 : decode cX5_readRange 15 = .ok (.aload_n 1, 1) := by decide +kernel
theorem dX5_readRange_16 : decode cX5_readRange 16 = .ok (.iconst 3, 1) := by decide +kernel
theorem dX5_readRange_17 : decode cX5_readRange 17 = .ok (.invokevirtual 54, 3) := by decide +kernel
theorem dX5_readRange_20 : decode cX5_readRange 20 = .ok (.iload_n 2, 1) := by decide +kernel
theorem dX5_readRange_21 : decode cX5_readRange 21 = .ok (.iconst 1, 1) := by decide +kernel
theorem dX5_readRange_22 : decode cX5_readRange 22 = .ok (.if_icmp .ne 7, 3) := by decide +kernel
theorem dX5_readRange_25 : decode cX5_readRange 25 = .ok (.iconst 0, 1) := by decide +kernel
theorem dX5_readRange_26 : decode cX5_readRange 26 = .ok (.goto 11, 3) := by decide +kernel
theorem dX5_readRange_29 : decode cX5_readRange 29 = .ok (.aload_n 0, 1) := by decide +kernel
theorem dX5_readRange_30 : decode cX5_readRange 30 = .ok (.getfield 9, 3) := by decide +kernel
theorem dX5_readRange_33 : decode cX5_readRange 33 = .ok (.iconst 2, 1) := by decide +kernel
theorem dX5_readRange_34 : decode cX5_readRange 34 = .ok (.iload_n 2, 1) := by decide +kernel
theorem dX5_readRange_35 : decode cX5_readRange 35 = .ok (.imul, 1) := by decide +kernel
theorem dX5_readRange_36 : decode cX5_readRange 36 = .ok (.iaload, 1) := by decide +kernel
theorem dX5_readRange_37 : decode cX5_readRange 37 = .ok (.istore_n 3, 1) := by decide +kernel
theorem dX5_readRange_38 : decode cX5_readRange 38 = .ok (.aload_n 0, 1) := by decide +kernel
theorem dX5_readRange_39 : decode cX5_readRange 39 = .ok (.aload_n 1, 1) := by decide +kernel
theorem dX5_readRange_40 : decode cX5_readRange 40 = .ok (.iconst 2, 1) := by decide +kernel
theorem dX5_readRange_41 : decode cX5_readRange 41 = .ok (.iload_n 2, 1) := by decide +kernel
theorem dX5_readRange_42 : decode cX5_readRange 42 = .ok (.imul, 1) := by decide +kernel
theorem dX5_readRange_43 : decode cX5_readRange 43 = .ok (.iconst 1, 1) := by decide +kernel
theorem dX5_readRange_44 : decode cX5_readRange 44 = .ok (.iadd, 1) := by decide +kernel
theorem dX5_readRange_45 : decode cX5_readRange 45 = .ok (.iload_n 3, 1) := by decide +kernel
theorem dX5_readRange_46 : decode cX5_readRange 46 = .ok (.getstatic 25, 3) := by decide +kernel
theorem dX5_readRange_49 : decode cX5_readRange 49 = .ok (.iload_n 2, 1) := by decide +kernel
theorem dX5_readRange_50 : decode cX5_readRange 50 = .ok (.iaload, 1) := by decide +kernel
theorem dX5_readRange_51 : decode cX5_readRange 51 = .ok (.invokevirtual 69, 3) := by decide +kernel
theorem dX5_readRange_54 : decode cX5_readRange 54 = .ok (.return_, 1) := by decide +kernel
theorem dX5_readNumber_0 : decode cX5_readNumber 0 = .ok (.aload_n 0, 1) := by decide +kernel
theorem dX5_readNumber_1 : decode cX5_readNumber 1 = .ok (.getfield 15, 3) := by decide +kernel
theorem dX5_readNumber_4 : decode cX5_readNumber 4 = .ok (.ifCond .eq 4, 3) := by decide +kernel
theorem dX5_readNumber_7 : decode cX5_readNumber 7 = .ok (.return_, 1) := by decide +kernel
theorem dX5_readNumber_8 : decode cX5_readNumber 8 = .ok (.aload_n 1, 1) := by decide +kernel
theorem dX5_readNumber_9 : decode cX5_readNumber 9 = .ok (.getfield 33, 3) := by decide +kernel
theorem dX5_readNumber_12 : decode cX5_readNumber 12 = .ok (.iconst 2, 1) := by decide +kernel
theorem dX5_readNumber_13 : decode cX5_readNumber 13 = .ok (.if_icmp .eq 10, 3) := by decide +kernel
theorem dX5_readNumber_16 : decode cX5_readNumber 16 = .ok (.aload_n 0, 1) := by decide +kernel
theorem dX5_readNumber_17 : decode cX5_readNumber 17 = .ok (.aload_n 1, 1) := by decide +kernel
theorem dX5_readNumber_18 : decode cX5_readNumber 18 = .ok (.iconst 1, 1) := by decide +kernel
theorem dX5_readNumber_19 : decode cX5_readNumber 19 = .ok (.invokevirtual 44, 3) := by decide +kernel
theorem dX5_readNumber_22 : decode cX5_readNumber 22 = .ok (.return_, 1) := by decide +kernel
theorem dX5_readNumber_23 : decode cX5_readNumber 23 = .ok (.aload_n 1, 1) := by decide +kernel
theorem dX5_readNumber_24 : decode cX5_readNumber 24 = .ok (.invokevirtual 73, 3) := by decide +kernel
theorem dX5_readNumber_27 : decode cX5_readNumber 27 = .ok (.istore 5, 2) := by decide +kernel
theorem dX5_readNumber_29 : decode cX5_readNumber 29 = .ok (.iload 5, 2) := by decide +kernel
theorem dX5_readNumber_31 : decode cX5_readNumber 31 = .ok (.iload_n 3, 1) := by decide +kernel
theorem dX5_readNumber_32 : decode cX5_readNumber 32 = .ok (.if_icmp .lt 10, 3) := by decide +kernel
theorem dX5_readNumber_35 : decode cX5_readNumber 35 = .ok (.iload 5, 2) := by decide +kernel
theorem dX5_readNumber_37 : decode cX5_readNumber 37 = .ok (.iload 4, 2) := by decide +kernel
theorem dX5_readNumber_39 : decode cX5_readNumber 39 = .ok (.if_icmp .le 10, 3) := by decide +kernel
theorem dX5_readNumber_42 : decode cX5_readNumber 42 = .ok (.aload_n 0, 1) := by decide +kernel
theorem dX5_readNumber_43 : decode cX5_readNumber 43 = .ok (.aload_n 1, 1) := by decide +kernel
theorem dX5_readNumber_44 : decode cX5_readNumber 44 = .ok (.iconst 3, 1) := by decide +kernel
theorem dX5_readNumber_45 : decode cX5_readNumber 45 = .ok (.invokevirtual 44, 3) := by decide +kernel
theorem dX5_readNumber_48 : decode cX5_readNumber 48 = .ok (.return_, 1) := by decide +kernel
theorem dX5_readNumber_49 : decode cX5_readNumber 49 = .ok (.aload_n 0, 1) := by decide +kernel
theorem dX5_readNumber_50 : decode cX5_readNumber 50 = .ok (.getfield 9, 3) := by decide +kernel
theorem dX5_readNumber_53 : decode cX5_readNumber 53 = .ok (.iload_n 2, 1) := by decide +kernel
theorem dX5_readNumber_54 : decode cX5_readNumber 54 = .ok (.iload 5, 2) := by decide +kernel
theorem dX5_readNumber_56 : decode cX5_readNumber 56 = .ok (.iastore, 1) := by decide +kernel
theorem dX5_readNumber_57 : decode cX5_readNumber 57 = .ok (.aload_n 1, 1) := by decide +kernel
theorem dX5_readNumber_58 : decode cX5_readNumber 58 = .ok (.invokevirtual 48, 3) := by decide +kernel
theorem dX5_readNumber_61 : decode cX5_readNumber 61 = .ok (.return_, 1) := by decide +kernel
theorem dX5_readSign_0 : decode cX5_readSign 0 = .ok (.aload_n 0, 1) := by decide +kernel
theorem dX5_readSign_1 : decode cX5_readSign 1 = .ok (.getfield 15, 3) := by decide +kernel
theorem dX5_readSign_4 : decode cX5_readSign 4 = .ok (.ifCond .eq 4, 3) := by decide +kernel
theorem dX5_readSign_7 : decode cX5_readSign 7 = .ok (.return_, 1) := by decide +kernel
theorem dX5_readSign_8 : decode cX5_readSign 8 = .ok (.aload_n 1, 1) := by decide +kernel
theorem dX5_readSign_9 : decode cX5_readSign 9 = .ok (.getfield 33, 3) := by decide +kernel
theorem dX5_readSign_12 : decode cX5_readSign 12 = .ok (.iload_n 2, 1) := by decide +kernel
theorem dX5_readSign_13 : decode cX5_readSign 13 = .ok (.if_icmp .eq 10, 3) := by decide +kernel
theorem dX5_readSign_16 : decode cX5_readSign 16 = .ok (.aload_n 0, 1) := by decide +kernel
theorem dX5_readSign_17 : decode cX5_readSign 17 = .ok (.aload_n 1, 1) := by decide +kernel
theorem dX5_readSign_18 : decode cX5_readSign 18 = .ok (.iconst 1, 1) := by decide +kernel
theorem dX5_readSign_19 : decode cX5_readSign 19 = .ok (.invokevirtual 44, 3) := by decide +kernel
theorem dX5_readSign_22 : decode cX5_readSign 22 = .ok (.return_, 1) := by decide +kernel
theorem dX5_readSign_23 : decode cX5_readSign 23 = .ok (.aload_n 1, 1) := by decide +kernel
theorem dX5_readSign_24 : decode cX5_readSign 24 = .ok (.invokevirtual 48, 3) := by decide +kernel
theorem dX5_readSign_27 : decode cX5_readSign 27 = .ok (.return_, 1) := by decide +kernel
theorem dX5_blame_0 : decode cX5_blame 0 = .ok (.aload_n 0, 1) := by decide +kernel
theorem dX5_blame_1 : decode cX5_blame 1 = .ok (.iload_n 2, 1) := by decide +kernel
theorem dX5_blame_2 : decode cX5_blame 2 = .ok (.putfield 15, 3) := by decide +kernel
theorem dX5_blame_5 : decode cX5_blame 5 = .ok (.aload_n 0, 1) := by decide +kernel
theorem dX5_blame_6 : decode cX5_blame 6 = .ok (.aload_n 1, 1) := by decide +kernel
theorem dX5_blame_7 : decode cX5_blame 7 = .ok (.getfield 77, 3) := by decide +kernel
theorem dX5_blame_10 : decode cX5_blame 10 = .ok (.putfield 19, 3) := by decide +kernel
theorem dX5_blame_13 : decode cX5_blame 13 = .ok (.return_, 1) := by decide +kernel
theorem dX6_init_0 : decode cX6_init 0 = .ok (.aload_n 0, 1) := by decide +kernel
theorem dX6_init_1 : decode cX6_init 1 = .ok (.invokespecial 3, 3) := by decide +kernel
theorem dX6_init_4 : decode cX6_init 4 = .ok (.aload_n 0, 1) := by decide +kernel
theorem dX6_init_5 : decode cX6_init 5 = .ok (.bipush 60, 2) := by decide +kernel
theorem dX6_init_7 : decode cX6_init 7 = .ok (.newarray .int, 2) := by decide +kernel
theorem dX6_init_9 : decode cX6_init 9 = .ok (.putfield 9, 3) := by decide +kernel
theorem dX6_init_12 : decode cX6_init 12 = .ok (.aload_n 0, 1) := by decide +kernel
theorem dX6_init_13 : decode cX6_init 13 = .ok (.bipush 32, 2) := by decide +kernel
theorem dX6_init_15 : decode cX6_init 15 = .ok (.newarray .int, 2) := by decide +kernel
theorem dX6_init_17 : decode cX6_init 17 = .ok (.putfield 15, 3) := by decide +kernel
theorem dX6_init_20 : decode cX6_init 20 = .ok (.return_, 1) := by decide +kernel
theorem dX6_draw_0 : decode cX6_draw 0 = .ok (.aload_n 0, 1) := by decide +kernel
theorem dX6_draw_1 : decode cX6_draw 1 = .ok (.iconst 0, 1) := by decide +kernel
theorem dX6_draw_2 : decode cX6_draw 2 = .ok (.putfield 18, 3) := by decide +kernel
theorem dX6_draw_5 : decode cX6_draw 5 = .ok (.aload_n 0, 1) := by decide +kernel
theorem dX6_draw_6 : decode cX6_draw 6 = .ok (.iconst (-1), 1) := by decide +kernel
theorem dX6_draw_7 : decode cX6_draw 7 = .ok (.putfield 22, 3) := by decide +kernel
theorem dX6_draw_10 : decode cX6_draw 10 = .ok (.aload_n 0, 1) := by decide +kernel
theorem dX6_draw_11 : decode cX6_draw 11 = .ok (.sipush 10000, 3) := by decide +kernel
theorem dX6_draw_14 : decode cX6_draw 14 = .ok (.putfield 25, 3) := by decide +kernel
theorem dX6_draw_17 : decode cX6_draw 17 = .ok (.aload_n 0, 1) := by decide +kernel
theorem dX6_draw_18 : decode cX6_draw 18 = .ok (.iconst (-1), 1) := by decide +kernel
theorem dX6_draw_19 : decode cX6_draw 19 = .ok (.putfield 28, 3) := by decide +kernel
theorem dX6_draw_22 : decode cX6_draw 22 = .ok (.aload_n 0, 1) := by decide +kernel
theorem dX6_draw_23 : decode cX6_draw 23 = .ok (.sipush 1000, 3) := by decide +kernel
theorem dX6_draw_26 : decode cX6_draw 26 = .ok (.putfield 31, 3) := by decide +kernel
theorem dX6_draw_29 : decode cX6_draw 29 = .ok (.aload_n 0, 1) := by decide +kernel
theorem dX6_draw_30 : decode cX6_draw 30 = .ok (.iconst (-1), 1) := by decide +kernel
theorem dX6_draw_31 : decode cX6_draw 31 = .ok (.putfield 34, 3) := by decide +kernel
theorem dX6_draw_34 : decode cX6_draw 34 = .ok (.aload_n 0, 1) := by decide +kernel
theorem dX6_draw_35 : decode cX6_draw 35 = .ok (.iconst 0, 1) := by decide +kernel
theorem dX6_draw_36 : decode cX6_draw 36 = .ok (.putfield 37, 3) := by decide +kernel
theorem dX6_draw_39 : decode cX6_draw 39 = .ok (.iconst 0, 1) := by decide +kernel
theorem dX6_draw_40 : decode cX6_draw 40 = .ok (.istore 4, 2) := by decide +kernel
theorem dX6_draw_42 : decode cX6_draw 42 = .ok (.iload 4, 2) := by decide +kernel
theorem dX6_draw_44 : decode cX6_draw 44 = .ok (.bipush 32, 2) := by decide +kernel
theorem dX6_draw_46 : decode cX6_draw 46 = .ok (.if_icmp .ge 17, 3) := by decide +kernel
theorem dX6_draw_49 : decode cX6_draw 49 = .ok (.aload_n 0, 1) := by decide +kernel
theorem dX6_draw_50 : decode cX6_draw 50 = .ok (.getfield 15, 3) := by decide +kernel
theorem dX6_draw_53 : decode cX6_draw 53 = .ok (.iload 4, 2) := by decide +kernel
theorem dX6_draw_55 : decode cX6_draw 55 = .ok (.iconst (-1), 1) := by decide +kernel
theorem dX6_draw_56 : decode cX6_draw 56 = .ok (.iastore, 1) := by decide +kernel
theorem dX6_draw_57 : decode cX6_draw 57 = .ok (.iinc 4 1, 3) := by decide +kernel
theorem dX6_draw_60 : decode cX6_draw 60 = .ok (.goto (-18), 3) := by decide +kernel
theorem dX6_draw_63 : decode cX6_draw 63 = .ok (.iconst 0, 1) := by decide +kernel
theorem dX6_draw_64 : decode cX6_draw 64 = .ok (.istore 4, 2) := by decide +kernel
theorem dX6_draw_66 : decode cX6_draw 66 = .ok (.iload 4, 2) := by decide +kernel
theorem dX6_draw_68 : decode cX6_draw 68 = .ok (.aload_n 1, 1) := by decide +kernel
theorem dX6_draw_69 : decode cX6_draw 69 = .ok (.getfield 40, 3) := by decide +kernel
theorem dX6_draw_72 : decode cX6_draw 72 = .ok (.getfield 46, 3) := by decide +kernel
theorem dX6_draw_75 : decode cX6_draw 75 = .ok (.if_icmp .ge 24, 3) := by decide +kernel
theorem dX6_draw_78 : decode cX6_draw 78 = .ok (.aload_n 2, 1) := by decide +kernel
theorem dX6_draw_79 : decode cX6_draw 79 = .ok (.iload 4, 2) := by decide +kernel
theorem dX6_draw_81 : decode cX6_draw 81 = .ok (.iaload, 1) := by decide +kernel
theorem dX6_draw_82 : decode cX6_draw 82 = .ok (.iload_n 3, 1) := by decide +kernel
theorem dX6_draw_83 : decode cX6_draw 83 = .ok (.if_icmp .ne 10, 3) := by decide +kernel
theorem dX6_draw_86 : decode cX6_draw 86 = .ok (.aload_n 0, 1) := by decide +kernel
theorem dX6_draw_87 : decode cX6_draw 87 = .ok (.aload_n 1, 1) := by decide +kernel
theorem dX6_draw_88 : decode cX6_draw 88 = .ok (.iload 4, 2) := by decide +kernel
theorem dX6_draw_90 : decode cX6_draw 90 = .ok (.invokevirtual 49, 3) := by decide +kernel
theorem dX6_draw_93 : decode cX6_draw 93 = .ok (.iinc 4 1, 3) := by decide +kernel
theorem dX6_draw_96 : decode cX6_draw 96 = .ok (.goto (-30), 3) := by decide +kernel
theorem dX6_draw_99 : decode cX6_draw 99 = .ok (.return_, 1) := by decide +kernel
theorem dX6_add_0 : decode cX6_add 0 = .ok (.aload_n 0, 1) := by decide +kernel
theorem dX6_add_1 : decode cX6_add 1 = .ok (.getfield 18, 3) := by decide +kernel
theorem dX6_add_4 : decode cX6_add 4 = .ok (.aload_n 0, 1) := by decide +kernel
theorem dX6_add_5 : decode cX6_add 5 = .ok (.getfield 9, 3) := by decide +kernel
theorem dX6_add_8 : decode cX6_add 8 = .ok (.arraylength, 1) := by decide +kernel
theorem dX6_add_9 : decode cX6_add 9 = .ok (.if_icmp .lt 4, 3) := by decide +kernel
theorem dX6_add_12 : decode cX6_add 12 = .ok (.return_, 1) := by decide +kernel
theorem dX6_add_13 : decode cX6_add 13 = .ok (.aload_n 0, 1) := by decide +kernel
theorem dX6_add_14 : decode cX6_add 14 = .ok (.getfield 9, 3) := by decide +kernel
theorem dX6_add_17 : decode cX6_add 17 = .ok (.aload_n 0, 1) := by decide +kernel
theorem dX6_add_18 : decode cX6_add 18 = .ok (.getfield 18, 3) := by decide +kernel
theorem dX6_add_21 : decode cX6_add 21 = .ok (.iload_n 2, 1) := by decide +kernel
theorem dX6_add_22 : decode cX6_add 22 = .ok (.iastore, 1) := by decide +kernel
theorem dX6_add_23 : decode cX6_add 23 = .ok (.aload_n 0, 1) := by decide +kernel
theorem dX6_add_24 : decode cX6_add 24 = .ok (.dup, 1) := by decide +kernel
theorem dX6_add_25 : decode cX6_add 25 = .ok (.getfield 18, 3) := by decide +kernel
theorem dX6_add_28 : decode cX6_add 28 = .ok (.iconst 1, 1) := by decide +kernel
theorem dX6_add_29 : decode cX6_add 29 = .ok (.iadd, 1) := by decide +kernel
theorem dX6_add_30 : decode cX6_add 30 = .ok (.putfield 18, 3) := by decide +kernel
theorem dX6_add_33 : decode cX6_add 33 = .ok (.aload_n 0, 1) := by decide +kernel
theorem dX6_add_34 : decode cX6_add 34 = .ok (.aload_n 1, 1) := by decide +kernel
theorem dX6_add_35 : decode cX6_add 35 = .ok (.getfield 40, 3) := by decide +kernel
theorem dX6_add_38 : decode cX6_add 38 = .ok (.getfield 53, 3) := by decide +kernel
theorem dX6_add_41 : decode cX6_add 41 = .ok (.iload_n 2, 1) := by decide +kernel
theorem dX6_add_42 : decode cX6_add 42 = .ok (.iaload, 1) := by decide +kernel
theorem dX6_add_43 : decode cX6_add 43 = .ok (.putfield 22, 3) := by decide +kernel
theorem dX6_add_46 : decode cX6_add 46 = .ok (.aload_n 0, 1) := by decide +kernel
theorem dX6_add_47 : decode cX6_add 47 = .ok (.aload_n 0, 1) := by decide +kernel
theorem dX6_add_48 : decode cX6_add 48 = .ok (.getfield 25, 3) := by decide +kernel
theorem dX6_add_51 : decode cX6_add 51 = .ok (.aload_n 1, 1) := by decide +kernel
theorem dX6_add_52 : decode cX6_add 52 = .ok (.getfield 40, 3) := by decide +kernel
theorem dX6_add_55 : decode cX6_add 55 = .ok (.getfield 55, 3) := by decide +kernel
theorem dX6_add_58 : decode cX6_add 58 = .ok (.iload_n 2, 1) := by decide +kernel
theorem dX6_add_59 : decode cX6_add 59 = .ok (.iaload, 1) := by decide +kernel
theorem dX6_add_60 : decode cX6_add 60 = .ok (.invokestatic 58, 3) := by decide +kernel
theorem dX6_add_63 : decode cX6_add 63 = .ok (.putfield 25, 3) := by decide +kernel
theorem dX6_add_66 : decode cX6_add 66 = .ok (.aload_n 0, 1) := by decide +kernel
theorem dX6_add_67 : decode cX6_add 67 = .ok (.aload_n 0, 1) := by decide +kernel
theorem dX6_add_68 : decode cX6_add 68 = .ok (.getfield 28, 3) := by decide +kernel
theorem dX6_add_71 : decode cX6_add 71 = .ok (.aload_n 1, 1) := by decide +kernel
theorem dX6_add_72 : decode cX6_add 72 = .ok (.getfield 40, 3) := by decide +kernel
theorem dX6_add_75 : decode cX6_add 75 = .ok (.getfield 64, 3) := by decide +kernel
theorem dX6_add_78 : decode cX6_add 78 = .ok (.iload_n 2, 1) := by decide +kernel
theorem dX6_add_79 : decode cX6_add 79 = .ok (.iaload, 1) := by decide +kernel
theorem dX6_add_80 : decode cX6_add 80 = .ok (.invokestatic 67, 3) := by decide +kernel
theorem dX6_add_83 : decode cX6_add 83 = .ok (.putfield 28, 3) := by decide +kernel
theorem dX6_add_86 : decode cX6_add 86 = .ok (.aload_n 0, 1) := by decide +kernel
theorem dX6_add_87 : decode cX6_add 87 = .ok (.aload_n 0, 1) := by decide +kernel
theorem dX6_add_88 : decode cX6_add 88 = .ok (.getfield 31, 3) := by decide +kernel
theorem dX6_add_91 : decode cX6_add 91 = .ok (.aload_n 1, 1) := by decide +kernel
theorem dX6_add_92 : decode cX6_add 92 = .ok (.getfield 70, 3) := by decide +kernel
theorem dX6_add_95 : decode cX6_add 95 = .ok (.iload_n 2, 1) := by decide +kernel
theorem dX6_add_96 : decode cX6_add 96 = .ok (.iaload, 1) := by decide +kernel
theorem dX6_add_97 : decode cX6_add 97 = .ok (.invokestatic 58, 3) := by decide +kernel
theorem dX6_add_100 : decode cX6_add 100 = .ok (.putfield 31, 3) := by decide +kernel
theorem dX6_add_103 : decode cX6_add 103 = .ok (.aload_n 0, 1) := by decide +kernel
theorem dX6_add_104 : decode cX6_add 104 = .ok (.aload_n 0, 1) := by decide +kernel
theorem dX6_add_105 : decode cX6_add 105 = .ok (.getfield 34, 3) := by decide +kernel
theorem dX6_add_108 : decode cX6_add 108 = .ok (.aload_n 1, 1) := by decide +kernel
theorem dX6_add_109 : decode cX6_add 109 = .ok (.getfield 70, 3) := by decide +kernel
theorem dX6_add_112 : decode cX6_add 112 = .ok (.iload_n 2, 1) := by decide +kernel
theorem dX6_add_113 : decode cX6_add 113 = .ok (.iaload, 1) := by decide +kernel
theorem dX6_add_114 : decode cX6_add 114 = .ok (.invokestatic 67, 3) := by decide +kernel
theorem dX6_add_117 : decode cX6_add 117 = .ok (.putfield 34, 3) := by decide +kernel
theorem dX6_add_120 : decode cX6_add 120 = .ok (.aload_n 0, 1) := by decide +kernel
theorem dX6_add_121 : decode cX6_add 121 = .ok (.dup, 1) := by decide +kernel
theorem dX6_add_122 : decode cX6_add 122 = .ok (.getfield 37, 3) := by decide +kernel
theorem dX6_add_125 : decode cX6_add 125 = .ok (.iconst 1, 1) := by decide +kernel
theorem dX6_add_126 : decode cX6_add 126 = .ok (.aload_n 1, 1) := by decide +kernel
theorem dX6_add_127 : decode cX6_add 127 = .ok (.getfield 40, 3) := by decide +kernel
theorem dX6_add_130 : decode cX6_add 130 = .ok (.getfield 73, 3) := by decide +kernel
theorem dX6_add_133 : decode cX6_add 133 = .ok (.iload_n 2, 1) := by decide +kernel
theorem dX6_add_134 : decode cX6_add 134 = .ok (.iaload, 1) := by decide +kernel
theorem dX6_add_135 : decode cX6_add 135 = .ok (.ishl, 1) := by decide +kernel
theorem dX6_add_136 : decode cX6_add 136 = .ok (.ior, 1) := by decide +kernel
theorem dX6_add_137 : decode cX6_add 137 = .ok (.putfield 37, 3) := by decide +kernel
theorem dX6_add_140 : decode cX6_add 140 = .ok (.iconst 0, 1) := by decide +kernel
theorem dX6_add_141 : decode cX6_add 141 = .ok (.istore_n 3, 1) := by decide +kernel
theorem dX6_add_142 : decode cX6_add 142 = .ok (.aload_n 1, 1) := by decide +kernel
theorem dX6_add_143 : decode cX6_add 143 = .ok (.getfield 76, 3) := by decide +kernel
theorem dX6_add_146 : decode cX6_add 146 = .ok (.iload_n 2, 1) := by decide +kernel
theorem dX6_add_147 : decode cX6_add 147 = .ok (.baload, 1) := by decide +kernel
theorem dX6_add_148 : decode cX6_add 148 = .ok (.ifCond .eq 32, 3) := by decide +kernel
theorem dX6_add_151 : decode cX6_add 151 = .ok (.iload_n 3, 1) := by decide +kernel
theorem dX6_add_152 : decode cX6_add 152 = .ok (.bipush 32, 2) := by decide +kernel
theorem dX6_add_154 : decode cX6_add 154 = .ok (.if_icmp .ge 26, 3) := by decide +kernel
theorem dX6_add_157 : decode cX6_add 157 = .ok (.aload_n 0, 1) := by decide +kernel
theorem dX6_add_158 : decode cX6_add 158 = .ok (.getfield 15, 3) := by decide +kernel
theorem dX6_add_161 : decode cX6_add 161 = .ok (.iload_n 3, 1) := by decide +kernel
theorem dX6_add_162 : decode cX6_add 162 = .ok (.dup2, 1) := by decide +kernel
theorem dX6_add_163 : decode cX6_add 163 = .ok (.iaload, 1) := by decide +kernel
theorem dX6_add_164 : decode cX6_add 164 = .ok (.aload_n 1, 1) := by decide +kernel
theorem dX6_add_165 : decode cX6_add 165 = .ok (.getfield 80, 3) := by decide +kernel
theorem dX6_add_168 : decode cX6_add 168 = .ok (.iload_n 2, 1) := by decide +kernel
theorem dX6_add_169 : decode cX6_add 169 = .ok (.aaload, 1) := by decide +kernel
theorem dX6_add_170 : decode cX6_add 170 = .ok (.iload_n 3, 1) := by decide +kernel
theorem dX6_add_171 : decode cX6_add 171 = .ok (.iaload, 1) := by decide +kernel
theorem dX6_add_172 : decode cX6_add 172 = .ok (.iand, 1) := by decide +kernel
theorem dX6_add_173 : decode cX6_add 173 = .ok (.iastore, 1) := by decide +kernel
theorem dX6_add_174 : decode cX6_add 174 = .ok (.iinc 3 1, 3) := by decide +kernel
theorem dX6_add_177 : decode cX6_add 177 = .ok (.goto (-35), 3) := by decide +kernel
theorem dX6_add_180 : decode cX6_add 180 = .ok (.return_, 1) := by decide +kernel
theorem dX6_has_0 : decode cX6_has 0 = .ok (.aload_n 0, 1) := by decide +kernel
theorem dX6_has_1 : decode cX6_has 1 = .ok (.getfield 15, 3) := by decide +kernel
theorem dX6_has_4 : decode cX6_has 4 = .ok (.iload_n 1, 1) := by decide +kernel
theorem dX6_has_5 : decode cX6_has 5 = .ok (.bipush 32, 2) := by decide +kernel
theorem dX6_has_7 : decode cX6_has 7 = .ok (.idiv, 1) := by decide +kernel
theorem dX6_has_8 : decode cX6_has 8 = .ok (.iaload, 1) := by decide +kernel
theorem dX6_has_9 : decode cX6_has 9 = .ok (.iload_n 1, 1) := by decide +kernel
theorem dX6_has_10 : decode cX6_has 10 = .ok (.bipush 32, 2) := by decide +kernel
theorem dX6_has_12 : decode cX6_has 12 = .ok (.irem, 1) := by decide +kernel
theorem dX6_has_13 : decode cX6_has 13 = .ok (.ishr, 1) := by decide +kernel
theorem dX6_has_14 : decode cX6_has 14 = .ok (.iconst 1, 1) := by decide +kernel
theorem dX6_has_15 : decode cX6_has 15 = .ok (.iand, 1) := by decide +kernel
theorem dX6_has_16 : decode cX6_has 16 = .ok (.ifCond .eq 7, 3) := by decide +kernel
theorem dX6_has_19 : decode cX6_has 19 = .ok (.iconst 1, 1) := by decide +kernel
theorem dX6_has_20 : decode cX6_has 20 = .ok (.goto 4, 3) := by decide +kernel
theorem dX6_has_23 : decode cX6_has 23 = .ok (.iconst 0, 1) := by decide +kernel
theorem dX6_has_24 : decode cX6_has 24 = .ok (.ireturn, 1) := by decide +kernel
theorem dX6_countFields_0 : decode cX6_countFields 0 = .ok (.iconst 0, 1) := by decide +kernel
theorem dX6_countFields_1 : decode cX6_countFields 1 = .ok (.istore_n 1, 1) := by decide +kernel
theorem dX6_countFields_2 : decode cX6_countFields 2 = .ok (.iconst 0, 1) := by decide +kernel
theorem dX6_countFields_3 : decode cX6_countFields 3 = .ok (.istore_n 2, 1) := by decide +kernel
theorem dX6_countFields_4 : decode cX6_countFields 4 = .ok (.iload_n 2, 1) := by decide +kernel
theorem dX6_countFields_5 : decode cX6_countFields 5 = .ok (.bipush 32, 2) := by decide +kernel
theorem dX6_countFields_7 : decode cX6_countFields 7 = .ok (.if_icmp .ge 21, 3) := by decide +kernel
theorem dX6_countFields_10 : decode cX6_countFields 10 = .ok (.iload_n 1, 1) := by decide +kernel
theorem dX6_countFields_11 : decode cX6_countFields 11 = .ok (.aload_n 0, 1) := by decide +kernel
theorem dX6_countFields_12 : decode cX6_countFields 12 = .ok (.getfield 15, 3) := by decide +kernel
theorem dX6_countFields_15 : decode cX6_countFields 15 = .ok (.iload_n 2, 1) := by decide +kernel
theorem dX6_countFields_16 : decode cX6_countFields 16 = .ok (.iaload, 1) := by decide +kernel
theorem dX6_countFields_17 : decode cX6_countFields 17 = .ok (.invokestatic 83, 3) := by decide +kernel
theorem dX6_countFields_20 : decode cX6_countFields 20 = .ok (.iadd, 1) := by decide +kernel
theorem dX6_countFields_21 : decode cX6_countFields 21 = .ok (.istore_n 1, 1) := by decide +kernel
theorem dX6_countFields_22 : decode cX6_countFields 22 = .ok (.iinc 2 1, 3) := by decide +kernel
theorem dX6_countFields_25 : decode cX6_countFields 25 = .ok (.goto (-21), 3) := by decide +kernel
theorem dX6_countFields_28 : decode cX6_countFields 28 = .ok (.iload_n 1, 1) := by decide +kernel
theorem dX6_countFields_29 : decode cX6_countFields 29 = .ok (.ireturn, 1) := by decide +kernel
theorem dX6_fieldAt_0 : decode cX6_fieldAt 0 = .ok (.iconst 0, 1) := by decide +kernel
theorem dX6_fieldAt_1 : decode cX6_fieldAt 1 = .ok (.istore_n 2, 1) := by decide +kernel
theorem dX6_fieldAt_2 : decode cX6_fieldAt 2 = .ok (.iconst 0, 1) := by decide +kernel
theorem dX6_fieldAt_3 : decode cX6_fieldAt 3 = .ok (.istore_n 3, 1) := by decide +kernel
theorem dX6_fieldAt_4 : decode cX6_fieldAt 4 = .ok (.iload_n 3, 1) := by decide +kernel
theorem dX6_fieldAt_5 : decode cX6_fieldAt 5 = .ok (.sipush 1024, 3) := by decide +kernel
theorem dX6_fieldAt_8 : decode cX6_fieldAt 8 = .ok (.if_icmp .ge 27, 3) := by decide +kernel
theorem dX6_fieldAt_11 : decode cX6_fieldAt 11 = .ok (.aload_n 0, 1) := by decide +kernel
theorem dX6_fieldAt_12 : decode cX6_fieldAt 12 = .ok (.iload_n 3, 1) := by decide +kernel
theorem dX6_fieldAt_13 : decode cX6_fieldAt 13 = .ok (.invokevirtual 89, 3) := by decide +kernel
theorem dX6_fieldAt_16 : decode cX6_fieldAt 16 = .ok (.ifCond .eq 13, 3) := by decide +kernel
theorem dX6_fieldAt_19 : decode cX6_fieldAt 19 = .ok (.iload_n 2, 1) := by decide +kernel
theorem dX6_fieldAt_20 : decode cX6_fieldAt 20 = .ok (.iload_n 1, 1) := by decide +kernel
theorem dX6_fieldAt_21 : decode cX6_fieldAt 21 = .ok (.if_icmp .ne 5, 3) := by decide +kernel
theorem dX6_fieldAt_24 : decode cX6_fieldAt 24 = .ok (.iload_n 3, 1) := by decide +kernel
theorem dX6_fieldAt_25 : decode cX6_fieldAt 25 = .ok (.ireturn, 1) := by decide +kernel
theorem dX6_fieldAt_26 : decode cX6_fieldAt 26 = .ok (.iinc 2 1, 3) := by decide +kernel
theorem dX6_fieldAt_29 : decode cX6_fieldAt 29 = .ok (.iinc 3 1, 3) := by decide +kernel
theorem dX6_fieldAt_32 : decode cX6_fieldAt 32 = .ok (.goto (-28), 3) := by decide +kernel
theorem dX6_fieldAt_35 : decode cX6_fieldAt 35 = .ok (.iconst (-1), 1) := by decide +kernel
theorem dX6_fieldAt_36 : decode cX6_fieldAt 36 = .ok (.ireturn, 1) := by decide +kernel
theorem dX6_edge_0 : decode cX6_edge 0 = .ok (.iconst (-1), 1) := by decide +kernel
theorem dX6_edge_1 : decode cX6_edge 1 = .ok (.istore_n 3, 1) := by decide +kernel
theorem dX6_edge_2 : decode cX6_edge 2 = .ok (.iconst 0, 1) := by decide +kernel
theorem dX6_edge_3 : decode cX6_edge 3 = .ok (.istore 4, 2) := by decide +kernel
theorem dX6_edge_5 : decode cX6_edge 5 = .ok (.iload 4, 2) := by decide +kernel
theorem dX6_edge_7 : decode cX6_edge 7 = .ok (.sipush 1024, 3) := by decide +kernel
theorem dX6_edge_10 : decode cX6_edge 10 = .ok (.if_icmp .ge 81, 3) := by decide +kernel
theorem dX6_edge_13 : decode cX6_edge 13 = .ok (.iload_n 1, 1) := by decide +kernel
theorem dX6_edge_14 : decode cX6_edge 14 = .ok (.ifCond .eq 11, 3) := by decide +kernel
theorem dX6_edge_17 : decode cX6_edge 17 = .ok (.iload 4, 2) := by decide +kernel
theorem dX6_edge_19 : decode cX6_edge 19 = .ok (.bipush 32, 2) := by decide +kernel
theorem dX6_edge_21 : decode cX6_edge 21 = .ok (.idiv, 1) := by decide +kernel
theorem dX6_edge_22 : decode cX6_edge 22 = .ok (.goto 8, 3) := by decide +kernel
theorem dX6_edge_25 : decode cX6_edge 25 = .ok (.iload 4, 2) := by decide +kernel
theorem dX6_edge_27 : decode cX6_edge 27 = .ok (.bipush 32, 2) := by decide +kernel
theorem dX6_edge_29 : decode cX6_edge 29 = .ok (.irem, 1) := by decide +kernel
theorem dX6_edge_30 : decode cX6_edge 30 = .ok (.istore 5, 2) := by decide +kernel
theorem dX6_edge_32 : decode cX6_edge 32 = .ok (.iload_n 2, 1) := by decide +kernel
theorem dX6_edge_33 : decode cX6_edge 33 = .ok (.ifCond .eq 17, 3) := by decide +kernel
theorem dX6_edge_36 : decode cX6_edge 36 = .ok (.iload 5, 2) := by decide +kernel
theorem dX6_edge_38 : decode cX6_edge 38 = .ok (.iload_n 3, 1) := by decide +kernel
theorem dX6_edge_39 : decode cX6_edge 39 = .ok (.if_icmp .le 7, 3) := by decide +kernel
theorem dX6_edge_42 : decode cX6_edge 42 = .ok (.iconst 1, 1) := by decide +kernel
theorem dX6_edge_43 : decode cX6_edge 43 = .ok (.goto 18, 3) := by decide +kernel
theorem dX6_edge_46 : decode cX6_edge 46 = .ok (.iconst 0, 1) := by decide +kernel
theorem dX6_edge_47 : decode cX6_edge 47 = .ok (.goto 14, 3) := by decide +kernel
theorem dX6_edge_50 : decode cX6_edge 50 = .ok (.iload 5, 2) := by decide +kernel
theorem dX6_edge_52 : decode cX6_edge 52 = .ok (.iload_n 3, 1) := by decide +kernel
theorem dX6_edge_53 : decode cX6_edge 53 = .ok (.if_icmp .ge 7, 3) := by decide +kernel
theorem dX6_edge_56 : decode cX6_edge 56 = .ok (.iconst 1, 1) := by decide +kernel
theorem dX6_edge_57 : decode cX6_edge 57 = .ok (.goto 4, 3) := by decide +kernel
theorem dX6_edge_60 : decode cX6_edge 60 = .ok (.iconst 0, 1) := by decide +kernel
theorem dX6_edge_61 : decode cX6_edge 61 = .ok (.istore 6, 2) := by decide +kernel
theorem dX6_edge_63 : decode cX6_edge 63 = .ok (.aload_n 0, 1) := by decide +kernel
theorem dX6_edge_64 : decode cX6_edge 64 = .ok (.iload 4, 2) := by decide +kernel
theorem dX6_edge_66 : decode cX6_edge 66 = .ok (.invokevirtual 89, 3) := by decide +kernel
theorem dX6_edge_69 : decode cX6_edge 69 = .ok (.ifCond .eq 16, 3) := by decide +kernel
theorem dX6_edge_72 : decode cX6_edge 72 = .ok (.iload_n 3, 1) := by decide +kernel
theorem dX6_edge_73 : decode cX6_edge 73 = .ok (.iconst (-1), 1) := by decide +kernel
theorem dX6_edge_74 : decode cX6_edge 74 = .ok (.if_icmp .eq 8, 3) := by decide +kernel
theorem dX6_edge_77 : decode cX6_edge 77 = .ok (.iload 6, 2) := by decide +kernel
theorem dX6_edge_79 : decode cX6_edge 79 = .ok (.ifCond .eq 6, 3) := by decide +kernel
theorem dX6_edge_82 : decode cX6_edge 82 = .ok (.iload 5, 2) := by decide +kernel
theorem dX6_edge_84 : decode cX6_edge 84 = .ok (.istore_n 3, 1) := by decide +kernel
theorem dX6_edge_85 : decode cX6_edge 85 = .ok (.iinc 4 1, 3) := by decide +kernel
theorem dX6_edge_88 : decode cX6_edge 88 = .ok (.goto (-83), 3) := by decide +kernel
theorem dX6_edge_91 : decode cX6_edge 91 = .ok (.iload_n 3, 1) := by decide +kernel
theorem dX6_edge_92 : decode cX6_edge 92 = .ok (.ireturn, 1) := by decide +kernel
theorem dX7_init_0 : decode cX7_init 0 = .ok (.aload_n 0, 1) := by decide +kernel
theorem dX7_init_1 : decode cX7_init 1 = .ok (.invokespecial 3, 3) := by decide +kernel
theorem dX7_init_4 : decode cX7_init 4 = .ok (.iconst 0, 1) := by decide +kernel
theorem dX7_init_5 : decode cX7_init 5 = .ok (.iload_n 1, 1) := by decide +kernel
theorem dX7_init_6 : decode cX7_init 6 = .ok (.invokestatic 9, 3) := by decide +kernel
theorem dX7_init_9 : decode cX7_init 9 = .ok (.istore_n 2, 1) := by decide +kernel
theorem dX7_init_10 : decode cX7_init 10 = .ok (.aload_n 0, 1) := by decide +kernel
theorem dX7_init_11 : decode cX7_init 11 = .ok (.iload_n 2, 1) := by decide +kernel
theorem dX7_init_12 : decode cX7_init 12 = .ok (.newarray .int, 2) := by decide +kernel
theorem dX7_init_14 : decode cX7_init 14 = .ok (.putfield 15, 3) := by decide +kernel
theorem dX7_init_17 : decode cX7_init 17 = .ok (.aload_n 0, 1) := by decide +kernel
theorem dX7_init_18 : decode cX7_init 18 = .ok (.iload_n 2, 1) := by decide +kernel
theorem dX7_init_19 : decode cX7_init 19 = .ok (.newarray .int, 2) := by decide +kernel
theorem dX7_init_21 : decode cX7_init 21 = .ok (.putfield 21, 3) := by decide +kernel
theorem dX7_init_24 : decode cX7_init 24 = .ok (.aload_n 0, 1) := by decide +kernel
theorem dX7_init_25 : decode cX7_init 25 = .ok (.iload_n 2, 1) := by decide +kernel
theorem dX7_init_26 : decode cX7_init 26 = .ok (.newarray .int, 2) := by decide +kernel
theorem dX7_init_28 : decode cX7_init 28 = .ok (.putfield 24, 3) := by decide +kernel
theorem dX7_init_31 : decode cX7_init 31 = .ok (.aload_n 0, 1) := by decide +kernel
theorem dX7_init_32 : decode cX7_init 32 = .ok (.iload_n 2, 1) := by decide +kernel
theorem dX7_init_33 : decode cX7_init 33 = .ok (.newarray .int, 2) := by decide +kernel
theorem dX7_init_35 : decode cX7_init 35 = .ok (.putfield 27, 3) := by decide +kernel
theorem dX7_init_38 : decode cX7_init 38 = .ok (.return_, 1) := by decide +kernel
theorem dX7_add_0 : decode cX7_add 0 = .ok (.aload_n 0, 1) := by decide +kernel
theorem dX7_add_1 : decode cX7_add 1 = .ok (.getfield 30, 3) := by decide +kernel
theorem dX7_add_4 : decode cX7_add 4 = .ok (.aload_n 0, 1) := by decide +kernel
theorem dX7_add_5 : decode cX7_add 5 = .ok (.getfield 15, 3) := by decide +kernel
theorem dX7_add_8 : decode cX7_add 8 = .ok (.arraylength, 1) := by decide +kernel
theorem dX7_add_9 : decode cX7_add 9 = .ok (.if_icmp .lt 5, 3) := by decide +kernel
theorem dX7_add_12 : decode cX7_add 12 = .ok (.iconst (-1), 1) := by decide +kernel
theorem dX7_add_13 : decode cX7_add 13 = .ok (.ireturn, 1) := by decide +kernel
theorem dX7_add_14 : decode cX7_add 14 = .ok (.aload_n 0, 1) := by decide +kernel
theorem dX7_add_15 : decode cX7_add 15 = .ok (.getfield 15, 3) := by decide +kernel
theorem dX7_add_18 : decode cX7_add 18 = .ok (.aload_n 0, 1) := by decide +kernel
theorem dX7_add_19 : decode cX7_add 19 = .ok (.getfield 30, 3) := by decide +kernel
theorem dX7_add_22 : decode cX7_add 22 = .ok (.iload_n 1, 1) := by decide +kernel
theorem dX7_add_23 : decode cX7_add 23 = .ok (.iastore, 1) := by decide +kernel
theorem dX7_add_24 : decode cX7_add 24 = .ok (.aload_n 0, 1) := by decide +kernel
theorem dX7_add_25 : decode cX7_add 25 = .ok (.getfield 21, 3) := by decide +kernel
theorem dX7_add_28 : decode cX7_add 28 = .ok (.aload_n 0, 1) := by decide +kernel
theorem dX7_add_29 : decode cX7_add 29 = .ok (.getfield 30, 3) := by decide +kernel
theorem dX7_add_32 : decode cX7_add 32 = .ok (.iload_n 2, 1) := by decide +kernel
theorem dX7_add_33 : decode cX7_add 33 = .ok (.iastore, 1) := by decide +kernel
theorem dX7_add_34 : decode cX7_add 34 = .ok (.aload_n 0, 1) := by decide +kernel
theorem dX7_add_35 : decode cX7_add 35 = .ok (.getfield 24, 3) := by decide +kernel
theorem dX7_add_38 : decode cX7_add 38 = .ok (.aload_n 0, 1) := by decide +kernel
theorem dX7_add_39 : decode cX7_add 39 = .ok (.getfield 30, 3) := by decide +kernel
theorem dX7_add_42 : decode cX7_add 42 = .ok (.iload_n 3, 1) := by decide +kernel
theorem dX7_add_43 : decode cX7_add 43 = .ok (.iastore, 1) := by decide +kernel
theorem dX7_add_44 : decode cX7_add 44 = .ok (.aload_n 0, 1) := by decide +kernel
theorem dX7_add_45 : decode cX7_add 45 = .ok (.getfield 27, 3) := by decide +kernel
theorem dX7_add_48 : decode cX7_add 48 = .ok (.aload_n 0, 1) := by decide +kernel
theorem dX7_add_49 : decode cX7_add 49 = .ok (.getfield 30, 3) := by decide +kernel
theorem dX7_add_52 : decode cX7_add 52 = .ok (.iload 4, 2) := by decide +kernel
theorem dX7_add_54 : decode cX7_add 54 = .ok (.iastore, 1) := by decide +kernel
theorem dX7_add_55 : decode cX7_add 55 = .ok (.aload_n 0, 1) := by decide +kernel
theorem dX7_add_56 : decode cX7_add 56 = .ok (.dup, 1) := by decide +kernel
theorem dX7_add_57 : decode cX7_add 57 = .ok (.getfield 30, 3) := by decide +kernel
theorem dX7_add_60 : decode cX7_add 60 = .ok (.iconst 1, 1) := by decide +kernel
theorem dX7_add_61 : decode cX7_add 61 = .ok (.iadd, 1) := by decide +kernel
theorem dX7_add_62 : decode cX7_add 62 = .ok (.putfield 30, 3) := by decide +kernel
theorem dX7_add_65 : decode cX7_add 65 = .ok (.aload_n 0, 1) := by decide +kernel
theorem dX7_add_66 : decode cX7_add 66 = .ok (.getfield 30, 3) := by decide +kernel
theorem dX7_add_69 : decode cX7_add 69 = .ok (.iconst 1, 1) := by decide +kernel
theorem dX7_add_70 : decode cX7_add 70 = .ok (.isub, 1) := by decide +kernel
theorem dX7_add_71 : decode cX7_add 71 = .ok (.ireturn, 1) := by decide +kernel
theorem dX7_holds_0 : decode cX7_holds 0 = .ok (.iconst 0, 1) := by decide +kernel
theorem dX7_holds_1 : decode cX7_holds 1 = .ok (.istore_n 3, 1) := by decide +kernel
theorem dX7_holds_2 : decode cX7_holds 2 = .ok (.iload_n 3, 1) := by decide +kernel
theorem dX7_holds_3 : decode cX7_holds 3 = .ok (.aload_n 0, 1) := by decide +kernel
theorem dX7_holds_4 : decode cX7_holds 4 = .ok (.getfield 30, 3) := by decide +kernel
theorem dX7_holds_7 : decode cX7_holds 7 = .ok (.if_icmp .ge 41, 3) := by decide +kernel
theorem dX7_holds_10 : decode cX7_holds 10 = .ok (.aload_n 0, 1) := by decide +kernel
theorem dX7_holds_11 : decode cX7_holds 11 = .ok (.getfield 21, 3) := by decide +kernel
theorem dX7_holds_14 : decode cX7_holds 14 = .ok (.iload_n 3, 1) := by decide +kernel
theorem dX7_holds_15 : decode cX7_holds 15 = .ok (.iaload, 1) := by decide +kernel
theorem dX7_holds_16 : decode cX7_holds 16 = .ok (.iload_n 1, 1) := by decide +kernel
theorem dX7_holds_17 : decode cX7_holds 17 = .ok (.if_icmp .ne 25, 3) := by decide +kernel
theorem dX7_holds_20 : decode cX7_holds 20 = .ok (.aload_n 0, 1) := by decide +kernel
theorem dX7_holds_21 : decode cX7_holds 21 = .ok (.getfield 24, 3) := by decide +kernel
theorem dX7_holds_24 : decode cX7_holds 24 = .ok (.iload_n 3, 1) := by decide +kernel
theorem dX7_holds_25 : decode cX7_holds 25 = .ok (.iaload, 1) := by decide +kernel
theorem dX7_holds_26 : decode cX7_holds 26 = .ok (.iload_n 2, 1) := by decide +kernel
theorem dX7_holds_27 : decode cX7_holds 27 = .ok (.if_icmp .gt 15, 3) := by decide +kernel
theorem dX7_holds_30 : decode cX7_holds 30 = .ok (.iload_n 2, 1) := by decide +kernel
theorem dX7_holds_31 : decode cX7_holds 31 = .ok (.aload_n 0, 1) := by decide +kernel
theorem dX7_holds_32 : decode cX7_holds 32 = .ok (.getfield 27, 3) := by decide +kernel
theorem dX7_holds_35 : decode cX7_holds 35 = .ok (.iload_n 3, 1) := by decide +kernel
theorem dX7_holds_36 : decode cX7_holds 36 = .ok (.iaload, 1) := by decide +kernel
theorem dX7_holds_37 : decode cX7_holds 37 = .ok (.if_icmp .gt 5, 3) := by decide +kernel
theorem dX7_holds_40 : decode cX7_holds 40 = .ok (.iconst 1, 1) := by decide +kernel
theorem dX7_holds_41 : decode cX7_holds 41 = .ok (.ireturn, 1) := by decide +kernel
theorem dX7_holds_42 : decode cX7_holds 42 = .ok (.iinc 3 1, 3) := by decide +kernel
theorem dX7_holds_45 : decode cX7_holds 45 = .ok (.goto (-43), 3) := by decide +kernel
theorem dX7_holds_48 : decode cX7_holds 48 = .ok (.iconst 0, 1) := by decide +kernel
theorem dX7_holds_49 : decode cX7_holds 49 = .ok (.ireturn, 1) := by decide +kernel
theorem dX7_changeBehind_0 : decode cX7_changeBehind 0 = .ok (.iload_n 3, 1) := by decide +kernel
theorem dX7_changeBehind_1 : decode cX7_changeBehind 1 = .ok (.istore 4, 2) := by decide +kernel
theorem dX7_changeBehind_3 : decode cX7_changeBehind 3 = .ok (.iconst 0, 1) := by decide +kernel
theorem dX7_changeBehind_4 : decode cX7_changeBehind 4 = .ok (.istore 5, 2) := by decide +kernel
theorem dX7_changeBehind_6 : decode cX7_changeBehind 6 = .ok (.iload 5, 2) := by decide +kernel
theorem dX7_changeBehind_8 : decode cX7_changeBehind 8 = .ok (.aload_n 0, 1) := by decide +kernel
theorem dX7_changeBehind_9 : decode cX7_changeBehind 9 = .ok (.getfield 30, 3) := by decide +kernel
theorem dX7_changeBehind_12 : decode cX7_changeBehind 12 = .ok (.if_icmp .ge 86, 3) := by decide +kernel
theorem dX7_changeBehind_15 : decode cX7_changeBehind 15 = .ok (.aload_n 0, 1) := by decide +kernel
theorem dX7_changeBehind_16 : decode cX7_changeBehind 16 = .ok (.getfield 21, 3) := by decide +kernel
theorem dX7_changeBehind_19 : decode cX7_changeBehind 19 = .ok (.iload 5, 2) := by decide +kernel
theorem dX7_changeBehind_21 : decode cX7_changeBehind 21 = .ok (.iaload, 1) := by decide +kernel
theorem dX7_changeBehind_22 : decode cX7_changeBehind 22 = .ok (.iload_n 1, 1) := by decide +kernel
theorem dX7_changeBehind_23 : decode cX7_changeBehind 23 = .ok (.if_icmp .ne 31, 3) := by decide +kernel
theorem dX7_changeBehind_26 : decode cX7_changeBehind 26 = .ok (.aload_n 0, 1) := by decide +kernel
theorem dX7_changeBehind_27 : decode cX7_changeBehind 27 = .ok (.getfield 24, 3) := by decide +kernel
theorem dX7_changeBehind_30 : decode cX7_changeBehind 30 = .ok (.iload 5, 2) := by decide +kernel
theorem dX7_changeBehind_32 : decode cX7_changeBehind 32 = .ok (.iaload, 1) := by decide +kernel
theorem dX7_changeBehind_33 : decode cX7_changeBehind 33 = .ok (.iload_n 2, 1) := by decide +kernel
theorem dX7_changeBehind_34 : decode cX7_changeBehind 34 = .ok (.if_icmp .le 20, 3) := by decide +kernel
theorem dX7_changeBehind_37 : decode cX7_changeBehind 37 = .ok (.iload 4, 2) := by decide +kernel
theorem dX7_changeBehind_39 : decode cX7_changeBehind 39 = .ok (.aload_n 0, 1) := by decide +kernel
theorem dX7_changeBehind_40 : decode cX7_changeBehind 40 = .ok (.getfield 24, 3) := by decide +kernel
theorem dX7_changeBehind_43 : decode cX7_changeBehind 43 = .ok (.iload 5, 2) := by decide +kernel
theorem dX7_changeBehind_45 : decode cX7_changeBehind 45 = .ok (.iaload, 1) := by decide +kernel
theorem dX7_changeBehind_46 : decode cX7_changeBehind 46 = .ok (.invokestatic 34, 3) := by decide +kernel
theorem dX7_changeBehind_49 : decode cX7_changeBehind 49 = .ok (.istore 4, 2) := by decide +kernel
theorem dX7_changeBehind_51 : decode cX7_changeBehind 51 = .ok (.goto 41, 3) := by decide +kernel
theorem dX7_changeBehind_54 : decode cX7_changeBehind 54 = .ok (.aload_n 0, 1) := by decide +kernel
theorem dX7_changeBehind_55 : decode cX7_changeBehind 55 = .ok (.getfield 21, 3) := by decide +kernel
theorem dX7_changeBehind_58 : decode cX7_changeBehind 58 = .ok (.iload 5, 2) := by decide +kernel
theorem dX7_changeBehind_60 : decode cX7_changeBehind 60 = .ok (.iaload, 1) := by decide +kernel
theorem dX7_changeBehind_61 : decode cX7_changeBehind 61 = .ok (.iload_n 1, 1) := by decide +kernel
theorem dX7_changeBehind_62 : decode cX7_changeBehind 62 = .ok (.if_icmp .ne 30, 3) := by decide +kernel
theorem dX7_changeBehind_65 : decode cX7_changeBehind 65 = .ok (.aload_n 0, 1) := by decide +kernel
theorem dX7_changeBehind_66 : decode cX7_changeBehind 66 = .ok (.getfield 27, 3) := by decide +kernel
theorem dX7_changeBehind_69 : decode cX7_changeBehind 69 = .ok (.iload 5, 2) := by decide +kernel
theorem dX7_changeBehind_71 : decode cX7_changeBehind 71 = .ok (.iaload, 1) := by decide +kernel
theorem dX7_changeBehind_72 : decode cX7_changeBehind 72 = .ok (.iload_n 2, 1) := by decide +kernel
theorem dX7_changeBehind_73 : decode cX7_changeBehind 73 = .ok (.if_icmp .lt 19, 3) := by decide +kernel
theorem dX7_changeBehind_76 : decode cX7_changeBehind 76 = .ok (.iload 4, 2) := by decide +kernel
theorem dX7_changeBehind_78 : decode cX7_changeBehind 78 = .ok (.aload_n 0, 1) := by decide +kernel
theorem dX7_changeBehind_79 : decode cX7_changeBehind 79 = .ok (.getfield 27, 3) := by decide +kernel
theorem dX7_changeBehind_82 : decode cX7_changeBehind 82 = .ok (.iload 5, 2) := by decide +kernel
theorem dX7_changeBehind_84 : decode cX7_changeBehind 84 = .ok (.iaload, 1) := by decide +kernel
theorem dX7_changeBehind_85 : decode cX7_changeBehind 85 = .ok (.iconst 1, 1) := by decide +kernel
theorem dX7_changeBehind_86 : decode cX7_changeBehind 86 = .ok (.iadd, 1) := by decide +kernel
theorem dX7_changeBehind_87 : decode cX7_changeBehind 87 = .ok (.invokestatic 34, 3) := by decide +kernel
theorem dX7_changeBehind_90 : decode cX7_changeBehind 90 = .ok (.istore 4, 2) := by decide +kernel
theorem dX7_changeBehind_92 : decode cX7_changeBehind 92 = .ok (.iinc 5 1, 3) := by decide +kernel
theorem dX7_changeBehind_95 : decode cX7_changeBehind 95 = .ok (.goto (-89), 3) := by decide +kernel
theorem dX7_changeBehind_98 : decode cX7_changeBehind 98 = .ok (.iload 4, 2) := by decide +kernel
theorem dX7_changeBehind_100 : decode cX7_changeBehind 100 = .ok (.ireturn, 1) := by decide +kernel
theorem dX7_holdsEach_0 : decode cX7_holdsEach 0 = .ok (.iload_n 3, 1) := by decide +kernel
theorem dX7_holdsEach_1 : decode cX7_holdsEach 1 = .ok (.istore 5, 2) := by decide +kernel
theorem dX7_holdsEach_3 : decode cX7_holdsEach 3 = .ok (.iconst 0, 1) := by decide +kernel
theorem dX7_holdsEach_4 : decode cX7_holdsEach 4 = .ok (.istore 6, 2) := by decide +kernel
theorem dX7_holdsEach_6 : decode cX7_holdsEach 6 = .ok (.iload 6, 2) := by decide +kernel
theorem dX7_holdsEach_8 : decode cX7_holdsEach 8 = .ok (.aload_n 0, 1) := by decide +kernel
theorem dX7_holdsEach_9 : decode cX7_holdsEach 9 = .ok (.getfield 30, 3) := by decide +kernel
theorem dX7_holdsEach_12 : decode cX7_holdsEach 12 = .ok (.if_icmp .ge 26, 3) := by decide +kernel
theorem dX7_holdsEach_15 : decode cX7_holdsEach 15 = .ok (.iload 5, 2) := by decide +kernel
theorem dX7_holdsEach_17 : decode cX7_holdsEach 17 = .ok (.iload 4, 2) := by decide +kernel
theorem dX7_holdsEach_19 : decode cX7_holdsEach 19 = .ok (.if_icmp .gt 19, 3) := by decide +kernel
theorem dX7_holdsEach_22 : decode cX7_holdsEach 22 = .ok (.aload_n 0, 1) := by decide +kernel
theorem dX7_holdsEach_23 : decode cX7_holdsEach 23 = .ok (.iload_n 1, 1) := by decide +kernel
theorem dX7_holdsEach_24 : decode cX7_holdsEach 24 = .ok (.iload_n 2, 1) := by decide +kernel
theorem dX7_holdsEach_25 : decode cX7_holdsEach 25 = .ok (.iload 5, 2) := by decide +kernel
theorem dX7_holdsEach_27 : decode cX7_holdsEach 27 = .ok (.invokevirtual 37, 3) := by decide +kernel
theorem dX7_holdsEach_30 : decode cX7_holdsEach 30 = .ok (.istore 5, 2) := by decide +kernel
theorem dX7_holdsEach_32 : decode cX7_holdsEach 32 = .ok (.iinc 6 1, 3) := by decide +kernel
theorem dX7_holdsEach_35 : decode cX7_holdsEach 35 = .ok (.goto (-29), 3) := by decide +kernel
theorem dX7_holdsEach_38 : decode cX7_holdsEach 38 = .ok (.iload 5, 2) := by decide +kernel
theorem dX7_holdsEach_40 : decode cX7_holdsEach 40 = .ok (.iload 4, 2) := by decide +kernel
theorem dX7_holdsEach_42 : decode cX7_holdsEach 42 = .ok (.if_icmp .le 7, 3) := by decide +kernel
theorem dX7_holdsEach_45 : decode cX7_holdsEach 45 = .ok (.iconst 1, 1) := by decide +kernel
theorem dX7_holdsEach_46 : decode cX7_holdsEach 46 = .ok (.goto 4, 3) := by decide +kernel
theorem dX7_holdsEach_49 : decode cX7_holdsEach 49 = .ok (.iconst 0, 1) := by decide +kernel
theorem dX7_holdsEach_50 : decode cX7_holdsEach 50 = .ok (.ireturn, 1) := by decide +kernel
theorem dX7_openBehind_0 : decode cX7_openBehind 0 = .ok (.iload_n 3, 1) := by decide +kernel
theorem dX7_openBehind_1 : decode cX7_openBehind 1 = .ok (.istore 4, 2) := by decide +kernel
theorem dX7_openBehind_3 : decode cX7_openBehind 3 = .ok (.iconst 0, 1) := by decide +kernel
theorem dX7_openBehind_4 : decode cX7_openBehind 4 = .ok (.istore 5, 2) := by decide +kernel
theorem dX7_openBehind_6 : decode cX7_openBehind 6 = .ok (.iload 5, 2) := by decide +kernel
theorem dX7_openBehind_8 : decode cX7_openBehind 8 = .ok (.aload_n 0, 1) := by decide +kernel
theorem dX7_openBehind_9 : decode cX7_openBehind 9 = .ok (.getfield 30, 3) := by decide +kernel
theorem dX7_openBehind_12 : decode cX7_openBehind 12 = .ok (.if_icmp .ge 58, 3) := by decide +kernel
theorem dX7_openBehind_15 : decode cX7_openBehind 15 = .ok (.aload_n 0, 1) := by decide +kernel
theorem dX7_openBehind_16 : decode cX7_openBehind 16 = .ok (.getfield 15, 3) := by decide +kernel
theorem dX7_openBehind_19 : decode cX7_openBehind 19 = .ok (.iload 5, 2) := by decide +kernel
theorem dX7_openBehind_21 : decode cX7_openBehind 21 = .ok (.iaload, 1) := by decide +kernel
theorem dX7_openBehind_22 : decode cX7_openBehind 22 = .ok (.iload_n 1, 1) := by decide +kernel
theorem dX7_openBehind_23 : decode cX7_openBehind 23 = .ok (.if_icmp .ne 41, 3) := by decide +kernel
theorem dX7_openBehind_26 : decode cX7_openBehind 26 = .ok (.aload_n 0, 1) := by decide +kernel
theorem dX7_openBehind_27 : decode cX7_openBehind 27 = .ok (.getfield 21, 3) := by decide +kernel
theorem dX7_openBehind_30 : decode cX7_openBehind 30 = .ok (.iload 5, 2) := by decide +kernel
theorem dX7_openBehind_32 : decode cX7_openBehind 32 = .ok (.iaload, 1) := by decide +kernel
theorem dX7_openBehind_33 : decode cX7_openBehind 33 = .ok (.iload_n 2, 1) := by decide +kernel
theorem dX7_openBehind_34 : decode cX7_openBehind 34 = .ok (.if_icmp .ne 30, 3) := by decide +kernel
theorem dX7_openBehind_37 : decode cX7_openBehind 37 = .ok (.aload_n 0, 1) := by decide +kernel
theorem dX7_openBehind_38 : decode cX7_openBehind 38 = .ok (.getfield 24, 3) := by decide +kernel
theorem dX7_openBehind_41 : decode cX7_openBehind 41 = .ok (.iload 5, 2) := by decide +kernel
theorem dX7_openBehind_43 : decode cX7_openBehind 43 = .ok (.iaload, 1) := by decide +kernel
theorem dX7_openBehind_44 : decode cX7_openBehind 44 = .ok (.iload_n 3, 1) := by decide +kernel
theorem dX7_openBehind_45 : decode cX7_openBehind 45 = .ok (.if_icmp .gt 19, 3) := by decide +kernel
theorem dX7_openBehind_48 : decode cX7_openBehind 48 = .ok (.iload 4, 2) := by decide +kernel
theorem dX7_openBehind_50 : decode cX7_openBehind 50 = .ok (.aload_n 0, 1) := by decide +kernel
theorem dX7_openBehind_51 : decode cX7_openBehind 51 = .ok (.getfield 27, 3) := by decide +kernel
theorem dX7_openBehind_54 : decode cX7_openBehind 54 = .ok (.iload 5, 2) := by decide +kernel
theorem dX7_openBehind_56 : decode cX7_openBehind 56 = .ok (.iaload, 1) := by decide +kernel
theorem dX7_openBehind_57 : decode cX7_openBehind 57 = .ok (.iconst 1, 1) := by decide +kernel
theorem dX7_openBehind_58 : decode cX7_openBehind 58 = .ok (.iadd, 1) := by decide +kernel
theorem dX7_openBehind_59 : decode cX7_openBehind 59 = .ok (.invokestatic 9, 3) := by decide +kernel
theorem dX7_openBehind_62 : decode cX7_openBehind 62 = .ok (.istore 4, 2) := by decide +kernel
theorem dX7_openBehind_64 : decode cX7_openBehind 64 = .ok (.iinc 5 1, 3) := by decide +kernel
theorem dX7_openBehind_67 : decode cX7_openBehind 67 = .ok (.goto (-61), 3) := by decide +kernel
theorem dX7_openBehind_70 : decode cX7_openBehind 70 = .ok (.iload 4, 2) := by decide +kernel
theorem dX7_openBehind_72 : decode cX7_openBehind 72 = .ok (.ireturn, 1) := by decide +kernel
theorem dX7_latestAhead_0 : decode cX7_latestAhead 0 = .ok (.iconst (-1), 1) := by decide +kernel
theorem dX7_latestAhead_1 : decode cX7_latestAhead 1 = .ok (.istore_n 3, 1) := by decide +kernel
theorem dX7_latestAhead_2 : decode cX7_latestAhead 2 = .ok (.iconst 0, 1) := by decide +kernel
theorem dX7_latestAhead_3 : decode cX7_latestAhead 3 = .ok (.istore 4, 2) := by decide +kernel
theorem dX7_latestAhead_5 : decode cX7_latestAhead 5 = .ok (.iload 4, 2) := by decide +kernel
theorem dX7_latestAhead_7 : decode cX7_latestAhead 7 = .ok (.aload_n 0, 1) := by decide +kernel
theorem dX7_latestAhead_8 : decode cX7_latestAhead 8 = .ok (.getfield 30, 3) := by decide +kernel
theorem dX7_latestAhead_11 : decode cX7_latestAhead 11 = .ok (.if_icmp .ge 49, 3) := by decide +kernel
theorem dX7_latestAhead_14 : decode cX7_latestAhead 14 = .ok (.aload_n 0, 1) := by decide +kernel
theorem dX7_latestAhead_15 : decode cX7_latestAhead 15 = .ok (.getfield 21, 3) := by decide +kernel
theorem dX7_latestAhead_18 : decode cX7_latestAhead 18 = .ok (.iload 4, 2) := by decide +kernel
theorem dX7_latestAhead_20 : decode cX7_latestAhead 20 = .ok (.iaload, 1) := by decide +kernel
theorem dX7_latestAhead_21 : decode cX7_latestAhead 21 = .ok (.iload_n 1, 1) := by decide +kernel
theorem dX7_latestAhead_22 : decode cX7_latestAhead 22 = .ok (.if_icmp .ne 32, 3) := by decide +kernel
theorem dX7_latestAhead_25 : decode cX7_latestAhead 25 = .ok (.aload_n 0, 1) := by decide +kernel
theorem dX7_latestAhead_26 : decode cX7_latestAhead 26 = .ok (.getfield 24, 3) := by decide +kernel
theorem dX7_latestAhead_29 : decode cX7_latestAhead 29 = .ok (.iload 4, 2) := by decide +kernel
theorem dX7_latestAhead_31 : decode cX7_latestAhead 31 = .ok (.iaload, 1) := by decide +kernel
theorem dX7_latestAhead_32 : decode cX7_latestAhead 32 = .ok (.iload_n 2, 1) := by decide +kernel
theorem dX7_latestAhead_33 : decode cX7_latestAhead 33 = .ok (.if_icmp .ge 21, 3) := by decide +kernel
theorem dX7_latestAhead_36 : decode cX7_latestAhead 36 = .ok (.iload_n 3, 1) := by decide +kernel
theorem dX7_latestAhead_37 : decode cX7_latestAhead 37 = .ok (.aload_n 0, 1) := by decide +kernel
theorem dX7_latestAhead_38 : decode cX7_latestAhead 38 = .ok (.getfield 27, 3) := by decide +kernel
theorem dX7_latestAhead_41 : decode cX7_latestAhead 41 = .ok (.iload 4, 2) := by decide +kernel
theorem dX7_latestAhead_43 : decode cX7_latestAhead 43 = .ok (.iaload, 1) := by decide +kernel
theorem dX7_latestAhead_44 : decode cX7_latestAhead 44 = .ok (.iload_n 2, 1) := by decide +kernel
theorem dX7_latestAhead_45 : decode cX7_latestAhead 45 = .ok (.iconst 1, 1) := by decide +kernel
theorem dX7_latestAhead_46 : decode cX7_latestAhead 46 = .ok (.isub, 1) := by decide +kernel
theorem dX7_latestAhead_47 : decode cX7_latestAhead 47 = .ok (.invokestatic 34, 3) := by decide +kernel
theorem dX7_latestAhead_50 : decode cX7_latestAhead 50 = .ok (.invokestatic 9, 3) := by decide +kernel
theorem dX7_latestAhead_53 : decode cX7_latestAhead 53 = .ok (.istore_n 3, 1) := by decide +kernel
theorem dX7_latestAhead_54 : decode cX7_latestAhead 54 = .ok (.iinc 4 1, 3) := by decide +kernel
theorem dX7_latestAhead_57 : decode cX7_latestAhead 57 = .ok (.goto (-52), 3) := by decide +kernel
theorem dX7_latestAhead_60 : decode cX7_latestAhead 60 = .ok (.iload_n 3, 1) := by decide +kernel
theorem dX7_latestAhead_61 : decode cX7_latestAhead 61 = .ok (.ireturn, 1) := by decide +kernel
theorem dX8_init_0 : decode cX8_init 0 = .ok (.aload_n 0, 1) := by decide +kernel
theorem dX8_init_1 : decode cX8_init 1 = .ok (.invokespecial 3, 3) := by decide +kernel
theorem dX8_init_4 : decode cX8_init 4 = .ok (.aload_n 0, 1) := by decide +kernel
theorem dX8_init_5 : decode cX8_init 5 = .ok (.bipush 100, 2) := by decide +kernel
theorem dX8_init_7 : decode cX8_init 7 = .ok (.newarray .int, 2) := by decide +kernel
theorem dX8_init_9 : decode cX8_init 9 = .ok (.putfield 9, 3) := by decide +kernel
theorem dX8_init_12 : decode cX8_init 12 = .ok (.return_, 1) := by decide +kernel
theorem dX8_add_0 : decode cX8_add 0 = .ok (.bipush 24, 2) := by decide +kernel
theorem dX8_add_2 : decode cX8_add 2 = .ok (.istore_n 2, 1) := by decide +kernel
theorem dX8_add_3 : decode cX8_add 3 = .ok (.iload_n 2, 1) := by decide +kernel
theorem dX8_add_4 : decode cX8_add 4 = .ok (.ifCond .lt 44, 3) := by decide +kernel
theorem dX8_add_7 : decode cX8_add 7 = .ok (.aload_n 0, 1) := by decide +kernel
theorem dX8_add_8 : decode cX8_add 8 = .ok (.getfield 15, 3) := by decide +kernel
theorem dX8_add_11 : decode cX8_add 11 = .ok (.bipush 100, 2) := by decide +kernel
theorem dX8_add_13 : decode cX8_add 13 = .ok (.if_icmp .ge 35, 3) := by decide +kernel
theorem dX8_add_16 : decode cX8_add 16 = .ok (.aload_n 0, 1) := by decide +kernel
theorem dX8_add_17 : decode cX8_add 17 = .ok (.getfield 9, 3) := by decide +kernel
theorem dX8_add_20 : decode cX8_add 20 = .ok (.aload_n 0, 1) := by decide +kernel
theorem dX8_add_21 : decode cX8_add 21 = .ok (.getfield 15, 3) := by decide +kernel
theorem dX8_add_24 : decode cX8_add 24 = .ok (.iload_n 1, 1) := by decide +kernel
theorem dX8_add_25 : decode cX8_add 25 = .ok (.iload_n 2, 1) := by decide +kernel
theorem dX8_add_26 : decode cX8_add 26 = .ok (.iushr, 1) := by decide +kernel
theorem dX8_add_27 : decode cX8_add 27 = .ok (.sipush 255, 3) := by decide +kernel
theorem dX8_add_30 : decode cX8_add 30 = .ok (.iand, 1) := by decide +kernel
theorem dX8_add_31 : decode cX8_add 31 = .ok (.iastore, 1) := by decide +kernel
theorem dX8_add_32 : decode cX8_add 32 = .ok (.aload_n 0, 1) := by decide +kernel
theorem dX8_add_33 : decode cX8_add 33 = .ok (.dup, 1) := by decide +kernel
theorem dX8_add_34 : decode cX8_add 34 = .ok (.getfield 15, 3) := by decide +kernel
theorem dX8_add_37 : decode cX8_add 37 = .ok (.iconst 1, 1) := by decide +kernel
theorem dX8_add_38 : decode cX8_add 38 = .ok (.iadd, 1) := by decide +kernel
theorem dX8_add_39 : decode cX8_add 39 = .ok (.putfield 15, 3) := by decide +kernel
theorem dX8_add_42 : decode cX8_add 42 = .ok (.iinc 2 (-8), 3) := by decide +kernel
theorem dX8_add_45 : decode cX8_add 45 = .ok (.goto (-42), 3) := by decide +kernel
theorem dX8_add_48 : decode cX8_add 48 = .ok (.return_, 1) := by decide +kernel
theorem dX8_rewind_0 : decode cX8_rewind 0 = .ok (.aload_n 0, 1) := by decide +kernel
theorem dX8_rewind_1 : decode cX8_rewind 1 = .ok (.iconst 0, 1) := by decide +kernel
theorem dX8_rewind_2 : decode cX8_rewind 2 = .ok (.putfield 19, 3) := by decide +kernel
theorem dX8_rewind_5 : decode cX8_rewind 5 = .ok (.aload_n 0, 1) := by decide +kernel
theorem dX8_rewind_6 : decode cX8_rewind 6 = .ok (.invokevirtual 22, 3) := by decide +kernel
theorem dX8_rewind_9 : decode cX8_rewind 9 = .ok (.return_, 1) := by decide +kernel
theorem dX8_step_0 : decode cX8_step 0 = .ok (.aload_n 0, 1) := by decide +kernel
theorem dX8_step_1 : decode cX8_step 1 = .ok (.aload_n 0, 1) := by decide +kernel
theorem dX8_step_2 : decode cX8_step 2 = .ok (.getfield 19, 3) := by decide +kernel
theorem dX8_step_5 : decode cX8_step 5 = .ok (.putfield 25, 3) := by decide +kernel
theorem dX8_step_8 : decode cX8_step 8 = .ok (.aload_n 0, 1) := by decide +kernel
theorem dX8_step_9 : decode cX8_step 9 = .ok (.getfield 25, 3) := by decide +kernel
theorem dX8_step_12 : decode cX8_step 12 = .ok (.aload_n 0, 1) := by decide +kernel
theorem dX8_step_13 : decode cX8_step 13 = .ok (.getfield 15, 3) := by decide +kernel
theorem dX8_step_16 : decode cX8_step 16 = .ok (.if_icmp .ge 30, 3) := by decide +kernel
theorem dX8_step_19 : decode cX8_step 19 = .ok (.aload_n 0, 1) := by decide +kernel
theorem dX8_step_20 : decode cX8_step 20 = .ok (.getfield 9, 3) := by decide +kernel
theorem dX8_step_23 : decode cX8_step 23 = .ok (.aload_n 0, 1) := by decide +kernel
theorem dX8_step_24 : decode cX8_step 24 = .ok (.getfield 25, 3) := by decide +kernel
theorem dX8_step_27 : decode cX8_step 27 = .ok (.iaload, 1) := by decide +kernel
theorem dX8_step_28 : decode cX8_step 28 = .ok (.bipush 32, 2) := by decide +kernel
theorem dX8_step_30 : decode cX8_step 30 = .ok (.if_icmp .ne 16, 3) := by decide +kernel
theorem dX8_step_33 : decode cX8_step 33 = .ok (.aload_n 0, 1) := by decide +kernel
theorem dX8_step_34 : decode cX8_step 34 = .ok (.dup, 1) := by decide +kernel
theorem dX8_step_35 : decode cX8_step 35 = .ok (.getfield 25, 3) := by decide +kernel
theorem dX8_step_38 : decode cX8_step 38 = .ok (.iconst 1, 1) := by decide +kernel
theorem dX8_step_39 : decode cX8_step 39 = .ok (.iadd, 1) := by decide +kernel
theorem dX8_step_40 : decode cX8_step 40 = .ok (.putfield 25, 3) := by decide +kernel
theorem dX8_step_43 : decode cX8_step 43 = .ok (.goto (-35), 3) := by decide +kernel
theorem dX8_step_46 : decode cX8_step 46 = .ok (.aload_n 0, 1) := by decide +kernel
theorem dX8_step_47 : decode cX8_step 47 = .ok (.aload_n 0, 1) := by decide +kernel
theorem dX8_step_48 : decode cX8_step 48 = .ok (.getfield 25, 3) := by decide +kernel
theorem dX8_step_51 : decode cX8_step 51 = .ok (.aload_n 0, 1) := by decide +kernel
theorem dX8_step_52 : decode cX8_step 52 = .ok (.getfield 15, 3) := by decide +kernel
theorem dX8_step_55 : decode cX8_step 55 = .ok (.if_icmp .ge 18, 3) := by decide +kernel
theorem dX8_step_58 : decode cX8_step 58 = .ok (.aload_n 0, 1) := by decide +kernel
theorem dX8_step_59 : decode cX8_step 59 = .ok (.getfield 9, 3) := by decide +kernel
theorem dX8_step_62 : decode cX8_step 62 = .ok (.aload_n 0, 1) := by decide +kernel
theorem dX8_step_63 : decode cX8_step 63 = .ok (.getfield 25, 3) := by decide +kernel
theorem dX8_step_66 : decode cX8_step 66 = .ok (.iaload, 1) := by decide +kernel
theorem dX8_step_67 : decode cX8_step 67 = .ok (.invokestatic 28, 3) := by decide +kernel
theorem dX8_step_70 : decode cX8_step 70 = .ok (.goto 4, 3) := by decide +kernel
theorem dX8_step_73 : decode cX8_step 73 = .ok (.iconst 0, 1) := by decide +kernel
theorem dX8_step_74 : decode cX8_step 74 = .ok (.putfield 32, 3) := by decide +kernel
theorem dX8_step_77 : decode cX8_step 77 = .ok (.aload_n 0, 1) := by decide +kernel
theorem dX8_step_78 : decode cX8_step 78 = .ok (.aload_n 0, 1) := by decide +kernel
theorem dX8_step_79 : decode cX8_step 79 = .ok (.getfield 32, 3) := by decide +kernel
theorem dX8_step_82 : decode cX8_step 82 = .ok (.ifCond .ne 10, 3) := by decide +kernel
theorem dX8_step_85 : decode cX8_step 85 = .ok (.aload_n 0, 1) := by decide +kernel
theorem dX8_step_86 : decode cX8_step 86 = .ok (.getfield 25, 3) := by decide +kernel
theorem dX8_step_89 : decode cX8_step 89 = .ok (.goto 9, 3) := by decide +kernel
theorem dX8_step_92 : decode cX8_step 92 = .ok (.aload_n 0, 1) := by decide +kernel
theorem dX8_step_93 : decode cX8_step 93 = .ok (.getfield 25, 3) := by decide +kernel
theorem dX8_step_96 : decode cX8_step 96 = .ok (.iconst 1, 1) := by decide +kernel
theorem dX8_step_97 : decode cX8_step 97 = .ok (.iadd, 1) := by decide +kernel
theorem dX8_step_98 : decode cX8_step 98 = .ok (.putfield 19, 3) := by decide +kernel
theorem dX8_step_101 : decode cX8_step 101 = .ok (.aload_n 0, 1) := by decide +kernel
theorem dX8_step_102 : decode cX8_step 102 = .ok (.getfield 32, 3) := by decide +kernel
theorem dX8_step_105 : decode cX8_step 105 = .ok (.iconst 1, 1) := by decide +kernel
theorem dX8_step_106 : decode cX8_step 106 = .ok (.if_icmp .eq 11, 3) := by decide +kernel
theorem dX8_step_109 : decode cX8_step 109 = .ok (.aload_n 0, 1) := by decide +kernel
theorem dX8_step_110 : decode cX8_step 110 = .ok (.getfield 32, 3) := by decide +kernel
theorem dX8_step_113 : decode cX8_step 113 = .ok (.iconst 2, 1) := by decide +kernel
theorem dX8_step_114 : decode cX8_step 114 = .ok (.if_icmp .ne 7, 3) := by decide +kernel
theorem dX8_step_117 : decode cX8_step 117 = .ok (.iconst 1, 1) := by decide +kernel
theorem dX8_step_118 : decode cX8_step 118 = .ok (.goto 4, 3) := by decide +kernel
theorem dX8_step_121 : decode cX8_step 121 = .ok (.iconst 0, 1) := by decide +kernel
theorem dX8_step_122 : decode cX8_step 122 = .ok (.istore_n 1, 1) := by decide +kernel
theorem dX8_step_123 : decode cX8_step 123 = .ok (.iload_n 1, 1) := by decide +kernel
theorem dX8_step_124 : decode cX8_step 124 = .ok (.ifCond .eq 46, 3) := by decide +kernel
theorem dX8_step_127 : decode cX8_step 127 = .ok (.aload_n 0, 1) := by decide +kernel
theorem dX8_step_128 : decode cX8_step 128 = .ok (.getfield 19, 3) := by decide +kernel
theorem dX8_step_131 : decode cX8_step 131 = .ok (.aload_n 0, 1) := by decide +kernel
theorem dX8_step_132 : decode cX8_step 132 = .ok (.getfield 15, 3) := by decide +kernel
theorem dX8_step_135 : decode cX8_step 135 = .ok (.if_icmp .ge 35, 3) := by decide +kernel
theorem dX8_step_138 : decode cX8_step 138 = .ok (.aload_n 0, 1) := by decide +kernel
theorem dX8_step_139 : decode cX8_step 139 = .ok (.getfield 9, 3) := by decide +kernel
theorem dX8_step_142 : decode cX8_step 142 = .ok (.aload_n 0, 1) := by decide +kernel
theorem dX8_step_143 : decode cX8_step 143 = .ok (.getfield 19, 3) := by decide +kernel
theorem dX8_step_146 : decode cX8_step 146 = .ok (.iaload, 1) := by decide +kernel
theorem dX8_step_147 : decode cX8_step 147 = .ok (.invokestatic 28, 3) := by decide +kernel
theorem dX8_step_150 : decode cX8_step 150 = .ok (.aload_n 0, 1) := by decide +kernel
theorem dX8_step_151 : decode cX8_step 151 = .ok (.getfield 32, 3) := by decide +kernel
theorem dX8_step_154 : decode cX8_step 154 = .ok (.if_icmp .ne 16, 3) := by decide +kernel
theorem dX8_step_157 : decode cX8_step 157 = .ok (.aload_n 0, 1) := by decide +kernel
theorem dX8_step_158 : decode cX8_step 158 = .ok (.dup, 1) := by decide +kernel
theorem dX8_step_159 : decode cX8_step 159 = .ok (.getfield 19, 3) := by decide +kernel
theorem dX8_step_162 : decode cX8_step 162 = .ok (.iconst 1, 1) := by decide +kernel
theorem dX8_step_163 : decode cX8_step 163 = .ok (.iadd, 1) := by decide +kernel
theorem dX8_step_164 : decode cX8_step 164 = .ok (.putfield 19, 3) := by decide +kernel
theorem dX8_step_167 : decode cX8_step 167 = .ok (.goto (-44), 3) := by decide +kernel
theorem dX8_step_170 : decode cX8_step 170 = .ok (.return_, 1) := by decide +kernel
theorem dX8_kindOf_0 : decode cX8_kindOf 0 = .ok (.iload_n 0, 1) := by decide +kernel
theorem dX8_kindOf_1 : decode cX8_kindOf 1 = .ok (.bipush 97, 2) := by decide +kernel
theorem dX8_kindOf_3 : decode cX8_kindOf 3 = .ok (.if_icmp .lt 9, 3) := by decide +kernel
theorem dX8_kindOf_6 : decode cX8_kindOf 6 = .ok (.iload_n 0, 1) := by decide +kernel
theorem dX8_kindOf_7 : decode cX8_kindOf 7 = .ok (.bipush 122, 2) := by decide +kernel
theorem dX8_kindOf_9 : decode cX8_kindOf 9 = .ok (.if_icmp .le 15, 3) := by decide +kernel
theorem dX8_kindOf_12 : decode cX8_kindOf 12 = .ok (.iload_n 0, 1) := by decide +kernel
theorem dX8_kindOf_13 : decode cX8_kindOf 13 = .ok (.bipush 65, 2) := by decide +kernel
theorem dX8_kindOf_15 : decode cX8_kindOf 15 = .ok (.if_icmp .lt 11, 3) := by decide +kernel
theorem dX8_kindOf_18 : decode cX8_kindOf 18 = .ok (.iload_n 0, 1) := by decide +kernel
theorem dX8_kindOf_19 : decode cX8_kindOf 19 = .ok (.bipush 90, 2) := by decide +kernel
theorem dX8_kindOf_21 : decode cX8_kindOf 21 = .ok (.if_icmp .gt 5, 3) := by decide +kernel
theorem dX8_kindOf_24 : decode cX8_kindOf 24 = .ok (.iconst 1, 1) := by decide +kernel
theorem dX8_kindOf_25 : decode cX8_kindOf 25 = .ok (.ireturn, 1) := by decide +kernel
theorem dX8_kindOf_26 : decode cX8_kindOf 26 = .ok (.iload_n 0, 1) := by decide +kernel
theorem dX8_kindOf_27 : decode cX8_kindOf 27 = .ok (.bipush 48, 2) := by decide +kernel
theorem dX8_kindOf_29 : decode cX8_kindOf 29 = .ok (.if_icmp .lt 11, 3) := by decide +kernel
theorem dX8_kindOf_32 : decode cX8_kindOf 32 = .ok (.iload_n 0, 1) := by decide +kernel
theorem dX8_kindOf_33 : decode cX8_kindOf 33 = .ok (.bipush 57, 2) := by decide +kernel
theorem dX8_kindOf_35 : decode cX8_kindOf 35 = .ok (.if_icmp .gt 5, 3) := by decide +kernel
theorem dX8_kindOf_38 : decode cX8_kindOf 38 = .ok (.iconst 2, 1) := by decide +kernel
theorem dX8_kindOf_39 : decode cX8_kindOf 39 = .ok (.ireturn, 1) := by decide +kernel
theorem dX8_kindOf_40 : decode cX8_kindOf 40 = .ok (.iload_n 0, 1) := by decide +kernel
theorem dX8_kindOf_41 : decode cX8_kindOf 41 = .ok (.bipush 45, 2) := by decide +kernel
theorem dX8_kindOf_43 : decode cX8_kindOf 43 = .ok (.if_icmp .ne 5, 3) := by decide +kernel
theorem dX8_kindOf_46 : decode cX8_kindOf 46 = .ok (.iconst 3, 1) := by decide +kernel
theorem dX8_kindOf_47 : decode cX8_kindOf 47 = .ok (.ireturn, 1) := by decide +kernel
theorem dX8_kindOf_48 : decode cX8_kindOf 48 = .ok (.iload_n 0, 1) := by decide +kernel
theorem dX8_kindOf_49 : decode cX8_kindOf 49 = .ok (.bipush 59, 2) := by decide +kernel
theorem dX8_kindOf_51 : decode cX8_kindOf 51 = .ok (.if_icmp .ne 7, 3) := by decide +kernel
theorem dX8_kindOf_54 : decode cX8_kindOf 54 = .ok (.iconst 4, 1) := by decide +kernel
theorem dX8_kindOf_55 : decode cX8_kindOf 55 = .ok (.goto 4, 3) := by decide +kernel
theorem dX8_kindOf_58 : decode cX8_kindOf 58 = .ok (.iconst 5, 1) := by decide +kernel
theorem dX8_kindOf_59 : decode cX8_kindOf 59 = .ok (.ireturn, 1) := by decide +kernel
theorem dX8_spells_0 : decode cX8_spells 0 = .ok (.aload_n 0, 1) := by decide +kernel
theorem dX8_spells_1 : decode cX8_spells 1 = .ok (.getfield 19, 3) := by decide +kernel
theorem dX8_spells_4 : decode cX8_spells 4 = .ok (.aload_n 0, 1) := by decide +kernel
theorem dX8_spells_5 : decode cX8_spells 5 = .ok (.getfield 25, 3) := by decide +kernel
theorem dX8_spells_8 : decode cX8_spells 8 = .ok (.isub, 1) := by decide +kernel
theorem dX8_spells_9 : decode cX8_spells 9 = .ok (.aload_n 1, 1) := by decide +kernel
theorem dX8_spells_10 : decode cX8_spells 10 = .ok (.invokevirtual 35, 3) := by decide +kernel
theorem dX8_spells_13 : decode cX8_spells 13 = .ok (.if_icmp .eq 5, 3) := by decide +kernel
theorem dX8_spells_16 : decode cX8_spells 16 = .ok (.iconst 0, 1) := by decide +kernel
theorem dX8_spells_17 : decode cX8_spells 17 = .ok (.ireturn, 1) := by decide +kernel
theorem dX8_spells_18 : decode cX8_spells 18 = .ok (.iconst 0, 1) := by decide +kernel
theorem dX8_spells_19 : decode cX8_spells 19 = .ok (.istore_n 2, 1) := by decide +kernel
theorem dX8_spells_20 : decode cX8_spells 20 = .ok (.iload_n 2, 1) := by decide +kernel
theorem dX8_spells_21 : decode cX8_spells 21 = .ok (.aload_n 1, 1) := by decide +kernel
theorem dX8_spells_22 : decode cX8_spells 22 = .ok (.invokevirtual 35, 3) := by decide +kernel
theorem dX8_spells_25 : decode cX8_spells 25 = .ok (.if_icmp .ge 30, 3) := by decide +kernel
theorem dX8_spells_28 : decode cX8_spells 28 = .ok (.aload_n 0, 1) := by decide +kernel
theorem dX8_spells_29 : decode cX8_spells 29 = .ok (.getfield 9, 3) := by decide +kernel
theorem dX8_spells_32 : decode cX8_spells 32 = .ok (.aload_n 0, 1) := by decide +kernel
theorem dX8_spells_33 : decode cX8_spells 33 = .ok (.getfield 25, 3) := by decide +kernel
theorem dX8_spells_36 : decode cX8_spells 36 = .ok (.iload_n 2, 1) := by decide +kernel
theorem dX8_spells_37 : decode cX8_spells 37 = .ok (.iadd, 1) := by decide +kernel
theorem dX8_spells_38 : decode cX8_spells 38 = .ok (.iaload, 1) := by decide +kernel
theorem dX8_spells_39 : decode cX8_spells 39 = .ok (.aload_n 1, 1) := by decide +kernel
theorem dX8_spells_40 : decode cX8_spells 40 = .ok (.iload_n 2, 1) := by decide +kernel
theorem dX8_spells_41 : decode cX8_spells 41 = .ok (.invokevirtual 40, 3) := by decide +kernel
theorem dX8_spells_44 : decode cX8_spells 44 = .ok (.if_icmp .eq 5, 3) := by decide +kernel
theorem dX8_spells_47 : decode cX8_spells 47 = .ok (.iconst 0, 1) := by decide +kernel
theorem dX8_spells_48 : decode cX8_spells 48 = .ok (.ireturn, 1) := by decide +kernel
theorem dX8_spells_49 : decode cX8_spells 49 = .ok (.iinc 2 1, 3) := by decide +kernel
theorem dX8_spells_52 : decode cX8_spells 52 = .ok (.goto (-32), 3) := by decide +kernel
theorem dX8_spells_55 : decode cX8_spells 55 = .ok (.iconst 1, 1) := by decide +kernel
theorem dX8_spells_56 : decode cX8_spells 56 = .ok (.ireturn, 1) := by decide +kernel
theorem dX8_value_0 : decode cX8_value 0 = .ok (.iconst 0, 1) := by decide +kernel
theorem dX8_value_1 : decode cX8_value 1 = .ok (.istore_n 1, 1) := by decide +kernel
theorem dX8_value_2 : decode cX8_value 2 = .ok (.aload_n 0, 1) := by decide +kernel
theorem dX8_value_3 : decode cX8_value 3 = .ok (.getfield 25, 3) := by decide +kernel
theorem dX8_value_6 : decode cX8_value 6 = .ok (.istore_n 2, 1) := by decide +kernel
theorem dX8_value_7 : decode cX8_value 7 = .ok (.iload_n 2, 1) := by decide +kernel
theorem dX8_value_8 : decode cX8_value 8 = .ok (.aload_n 0, 1) := by decide +kernel
theorem dX8_value_9 : decode cX8_value 9 = .ok (.getfield 19, 3) := by decide +kernel
theorem dX8_value_12 : decode cX8_value 12 = .ok (.if_icmp .ge 30, 3) := by decide +kernel
theorem dX8_value_15 : decode cX8_value 15 = .ok (.sipush 10000, 3) := by decide +kernel
theorem dX8_value_18 : decode cX8_value 18 = .ok (.iload_n 1, 1) := by decide +kernel
theorem dX8_value_19 : decode cX8_value 19 = .ok (.bipush 10, 2) := by decide +kernel
theorem dX8_value_21 : decode cX8_value 21 = .ok (.imul, 1) := by decide +kernel
theorem dX8_value_22 : decode cX8_value 22 = .ok (.aload_n 0, 1) := by decide +kernel
theorem dX8_value_23 : decode cX8_value 23 = .ok (.getfield 9, 3) := by decide +kernel
theorem dX8_value_26 : decode cX8_value 26 = .ok (.iload_n 2, 1) := by decide +kernel
theorem dX8_value_27 : decode cX8_value 27 = .ok (.iaload, 1) := by decide +kernel
theorem dX8_value_28 : decode cX8_value 28 = .ok (.iadd, 1) := by decide +kernel
theorem dX8_value_29 : decode cX8_value 29 = .ok (.bipush 48, 2) := by decide +kernel
theorem dX8_value_31 : decode cX8_value 31 = .ok (.isub, 1) := by decide +kernel
theorem dX8_value_32 : decode cX8_value 32 = .ok (.invokestatic 44, 3) := by decide +kernel
theorem dX8_value_35 : decode cX8_value 35 = .ok (.istore_n 1, 1) := by decide +kernel
theorem dX8_value_36 : decode cX8_value 36 = .ok (.iinc 2 1, 3) := by decide +kernel
theorem dX8_value_39 : decode cX8_value 39 = .ok (.goto (-32), 3) := by decide +kernel
theorem dX8_value_42 : decode cX8_value 42 = .ok (.iload_n 1, 1) := by decide +kernel
theorem dX8_value_43 : decode cX8_value 43 = .ok (.ireturn, 1) := by decide +kernel
