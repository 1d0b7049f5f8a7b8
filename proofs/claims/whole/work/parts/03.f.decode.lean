theorem dX10_sender_275 : decode cX10_sender 275 = .ok (.iload 8, 2) := by decide +kernel
theorem dX10_sender_277 : decode cX10_sender 277 = .ok (.aload_n 0, 1) := by decide +kernel
theorem dX10_sender_278 : decode cX10_sender 278 = .ok (.getfield 91, 3) := by decide +kernel
theorem dX10_sender_281 : decode cX10_sender 281 = .ok (.if_icmp .ge 21, 3) := by decide +kernel
theorem dX10_sender_284 : decode cX10_sender 284 = .ok (.iload 7, 2) := by decide +kernel
theorem dX10_sender_286 : decode cX10_sender 286 = .ok (.iload 5, 2) := by decide +kernel
theorem dX10_sender_288 : decode cX10_sender 288 = .ok (.iload 8, 2) := by decide +kernel
theorem dX10_sender_290 : decode cX10_sender 290 = .ok (.ishr, 1) := by decide +kernel
theorem dX10_sender_291 : decode cX10_sender 291 = .ok (.iconst 1, 1) := by decide +kernel
theorem dX10_sender_292 : decode cX10_sender 292 = .ok (.iand, 1) := by decide +kernel
theorem dX10_sender_293 : decode cX10_sender 293 = .ok (.iadd, 1) := by decide +kernel
theorem dX10_sender_294 : decode cX10_sender 294 = .ok (.istore 7, 2) := by decide +kernel
theorem dX10_sender_296 : decode cX10_sender 296 = .ok (.iinc 8 1, 3) := by decide +kernel
theorem dX10_sender_299 : decode cX10_sender 299 = .ok (.goto (-24), 3) := by decide +kernel
theorem dX10_sender_302 : decode cX10_sender 302 = .ok (.iload 7, 2) := by decide +kernel
theorem dX10_sender_304 : decode cX10_sender 304 = .ok (.ireturn, 1) := by decide +kernel
theorem dX10_place_0 : decode cX10_place 0 = .ok (.aload_n 0, 1) := by decide +kernel
theorem dX10_place_1 : decode cX10_place 1 = .ok (.iload_n 1, 1) := by decide +kernel
theorem dX10_place_2 : decode cX10_place 2 = .ok (.invokevirtual 129, 3) := by decide +kernel
theorem dX10_place_5 : decode cX10_place 5 = .ok (.ifCond .eq 7, 3) := by decide +kernel
theorem dX10_place_8 : decode cX10_place 8 = .ok (.iload_n 2, 1) := by decide +kernel
theorem dX10_place_9 : decode cX10_place 9 = .ok (.ifCond .ge 5, 3) := by decide +kernel
theorem dX10_place_12 : decode cX10_place 12 = .ok (.iconst (-1), 1) := by decide +kernel
theorem dX10_place_13 : decode cX10_place 13 = .ok (.ireturn, 1) := by decide +kernel
theorem dX10_place_14 : decode cX10_place 14 = .ok (.iload_n 2, 1) := by decide +kernel
theorem dX10_place_15 : decode cX10_place 15 = .ok (.istore_n 3, 1) := by decide +kernel
theorem dX10_place_16 : decode cX10_place 16 = .ok (.iconst 0, 1) := by decide +kernel
theorem dX10_place_17 : decode cX10_place 17 = .ok (.istore 4, 2) := by decide +kernel
theorem dX10_place_19 : decode cX10_place 19 = .ok (.iload 4, 2) := by decide +kernel
theorem dX10_place_21 : decode cX10_place 21 = .ok (.sipush 1024, 3) := by decide +kernel
theorem dX10_place_24 : decode cX10_place 24 = .ok (.if_icmp .ge 32, 3) := by decide +kernel
theorem dX10_place_27 : decode cX10_place 27 = .ok (.aload_n 0, 1) := by decide +kernel
theorem dX10_place_28 : decode cX10_place 28 = .ok (.iload_n 1, 1) := by decide +kernel
theorem dX10_place_29 : decode cX10_place 29 = .ok (.iload 4, 2) := by decide +kernel
theorem dX10_place_31 : decode cX10_place 31 = .ok (.invokevirtual 132, 3) := by decide +kernel
theorem dX10_place_34 : decode cX10_place 34 = .ok (.ifCond .ne 6, 3) := by decide +kernel
theorem dX10_place_37 : decode cX10_place 37 = .ok (.goto 13, 3) := by decide +kernel
theorem dX10_place_40 : decode cX10_place 40 = .ok (.iload_n 3, 1) := by decide +kernel
theorem dX10_place_41 : decode cX10_place 41 = .ok (.ifCond .ne 6, 3) := by decide +kernel
theorem dX10_place_44 : decode cX10_place 44 = .ok (.iload 4, 2) := by decide +kernel
theorem dX10_place_46 : decode cX10_place 46 = .ok (.ireturn, 1) := by decide +kernel
theorem dX10_place_47 : decode cX10_place 47 = .ok (.iinc 3 (-1), 3) := by decide +kernel
theorem dX10_place_50 : decode cX10_place 50 = .ok (.iinc 4 1, 3) := by decide +kernel
theorem dX10_place_53 : decode cX10_place 53 = .ok (.goto (-34), 3) := by decide +kernel
theorem dX10_place_56 : decode cX10_place 56 = .ok (.iconst (-1), 1) := by decide +kernel
theorem dX10_place_57 : decode cX10_place 57 = .ok (.ireturn, 1) := by decide +kernel
theorem dX10_box_0 : decode cX10_box 0 = .ok (.aload_n 0, 1) := by decide +kernel
theorem dX10_box_1 : decode cX10_box 1 = .ok (.iload_n 1, 1) := by decide +kernel
theorem dX10_box_2 : decode cX10_box 2 = .ok (.invokevirtual 129, 3) := by decide +kernel
theorem dX10_box_5 : decode cX10_box 5 = .ok (.ifCond .eq 12, 3) := by decide +kernel
theorem dX10_box_8 : decode cX10_box 8 = .ok (.iload_n 2, 1) := by decide +kernel
theorem dX10_box_9 : decode cX10_box 9 = .ok (.iconst 0, 1) := by decide +kernel
theorem dX10_box_10 : decode cX10_box 10 = .ok (.iconst 3, 1) := by decide +kernel
theorem dX10_box_11 : decode cX10_box 11 = .ok (.invokestatic 87, 3) := by decide +kernel
theorem dX10_box_14 : decode cX10_box 14 = .ok (.ifCond .ne 5, 3) := by decide +kernel
theorem dX10_box_17 : decode cX10_box 17 = .ok (.iconst (-1), 1) := by decide +kernel
theorem dX10_box_18 : decode cX10_box 18 = .ok (.ireturn, 1) := by decide +kernel
theorem dX10_box_19 : decode cX10_box 19 = .ok (.iconst (-1), 1) := by decide +kernel
theorem dX10_box_20 : decode cX10_box 20 = .ok (.istore_n 3, 1) := by decide +kernel
theorem dX10_box_21 : decode cX10_box 21 = .ok (.iconst 0, 1) := by decide +kernel
theorem dX10_box_22 : decode cX10_box 22 = .ok (.istore 4, 2) := by decide +kernel
theorem dX10_box_24 : decode cX10_box 24 = .ok (.iload 4, 2) := by decide +kernel
theorem dX10_box_26 : decode cX10_box 26 = .ok (.sipush 1024, 3) := by decide +kernel
theorem dX10_box_29 : decode cX10_box 29 = .ok (.if_icmp .ge 70, 3) := by decide +kernel
theorem dX10_box_32 : decode cX10_box 32 = .ok (.aload_n 0, 1) := by decide +kernel
theorem dX10_box_33 : decode cX10_box 33 = .ok (.iload_n 1, 1) := by decide +kernel
theorem dX10_box_34 : decode cX10_box 34 = .ok (.iload 4, 2) := by decide +kernel
theorem dX10_box_36 : decode cX10_box 36 = .ok (.invokevirtual 132, 3) := by decide +kernel
theorem dX10_box_39 : decode cX10_box 39 = .ok (.ifCond .ne 6, 3) := by decide +kernel
theorem dX10_box_42 : decode cX10_box 42 = .ok (.goto 51, 3) := by decide +kernel
theorem dX10_box_45 : decode cX10_box 45 = .ok (.iload_n 2, 1) := by decide +kernel
theorem dX10_box_46 : decode cX10_box 46 = .ok (.iconst 2, 1) := by decide +kernel
theorem dX10_box_47 : decode cX10_box 47 = .ok (.if_icmp .ge 11, 3) := by decide +kernel
theorem dX10_box_50 : decode cX10_box 50 = .ok (.iload 4, 2) := by decide +kernel
theorem dX10_box_52 : decode cX10_box 52 = .ok (.bipush 32, 2) := by decide +kernel
theorem dX10_box_54 : decode cX10_box 54 = .ok (.irem, 1) := by decide +kernel
theorem dX10_box_55 : decode cX10_box 55 = .ok (.goto 8, 3) := by decide +kernel
theorem dX10_box_58 : decode cX10_box 58 = .ok (.iload 4, 2) := by decide +kernel
theorem dX10_box_60 : decode cX10_box 60 = .ok (.bipush 32, 2) := by decide +kernel
theorem dX10_box_62 : decode cX10_box 62 = .ok (.idiv, 1) := by decide +kernel
theorem dX10_box_63 : decode cX10_box 63 = .ok (.istore 5, 2) := by decide +kernel
theorem dX10_box_65 : decode cX10_box 65 = .ok (.iload_n 3, 1) := by decide +kernel
theorem dX10_box_66 : decode cX10_box 66 = .ok (.ifCond .lt 24, 3) := by decide +kernel
theorem dX10_box_69 : decode cX10_box 69 = .ok (.iload_n 2, 1) := by decide +kernel
theorem dX10_box_70 : decode cX10_box 70 = .ok (.iconst 2, 1) := by decide +kernel
theorem dX10_box_71 : decode cX10_box 71 = .ok (.irem, 1) := by decide +kernel
theorem dX10_box_72 : decode cX10_box 72 = .ok (.ifCond .ne 12, 3) := by decide +kernel
theorem dX10_box_75 : decode cX10_box 75 = .ok (.iload 5, 2) := by decide +kernel
theorem dX10_box_77 : decode cX10_box 77 = .ok (.iload_n 3, 1) := by decide +kernel
theorem dX10_box_78 : decode cX10_box 78 = .ok (.if_icmp .ge 15, 3) := by decide +kernel
theorem dX10_box_81 : decode cX10_box 81 = .ok (.goto 9, 3) := by decide +kernel
theorem dX10_box_84 : decode cX10_box 84 = .ok (.iload 5, 2) := by decide +kernel
theorem dX10_box_86 : decode cX10_box 86 = .ok (.iload_n 3, 1) := by decide +kernel
theorem dX10_box_87 : decode cX10_box 87 = .ok (.if_icmp .le 6, 3) := by decide +kernel
theorem dX10_box_90 : decode cX10_box 90 = .ok (.iload 5, 2) := by decide +kernel
theorem dX10_box_92 : decode cX10_box 92 = .ok (.istore_n 3, 1) := by decide +kernel
theorem dX10_box_93 : decode cX10_box 93 = .ok (.iinc 4 1, 3) := by decide +kernel
theorem dX10_box_96 : decode cX10_box 96 = .ok (.goto (-72), 3) := by decide +kernel
theorem dX10_box_99 : decode cX10_box 99 = .ok (.iload_n 3, 1) := by decide +kernel
theorem dX10_box_100 : decode cX10_box 100 = .ok (.ireturn, 1) := by decide +kernel
theorem dX10_sortOf_0 : decode cX10_sortOf 0 = .ok (.iconst 0, 1) := by decide +kernel
theorem dX10_sortOf_1 : decode cX10_sortOf 1 = .ok (.istore_n 3, 1) := by decide +kernel
theorem dX10_sortOf_2 : decode cX10_sortOf 2 = .ok (.iload_n 3, 1) := by decide +kernel
theorem dX10_sortOf_3 : decode cX10_sortOf 3 = .ok (.aload_n 0, 1) := by decide +kernel
theorem dX10_sortOf_4 : decode cX10_sortOf 4 = .ok (.getfield 105, 3) := by decide +kernel
theorem dX10_sortOf_7 : decode cX10_sortOf 7 = .ok (.if_icmp .ge 40, 3) := by decide +kernel
theorem dX10_sortOf_10 : decode cX10_sortOf 10 = .ok (.aload_n 0, 1) := by decide +kernel
theorem dX10_sortOf_11 : decode cX10_sortOf 11 = .ok (.getfield 31, 3) := by decide +kernel
theorem dX10_sortOf_14 : decode cX10_sortOf 14 = .ok (.iload_n 3, 1) := by decide +kernel
theorem dX10_sortOf_15 : decode cX10_sortOf 15 = .ok (.iaload, 1) := by decide +kernel
theorem dX10_sortOf_16 : decode cX10_sortOf 16 = .ok (.iload_n 1, 1) := by decide +kernel
theorem dX10_sortOf_17 : decode cX10_sortOf 17 = .ok (.if_icmp .ne 24, 3) := by decide +kernel
theorem dX10_sortOf_20 : decode cX10_sortOf 20 = .ok (.iload_n 2, 1) := by decide +kernel
theorem dX10_sortOf_21 : decode cX10_sortOf 21 = .ok (.aload_n 0, 1) := by decide +kernel
theorem dX10_sortOf_22 : decode cX10_sortOf 22 = .ok (.getfield 34, 3) := by decide +kernel
theorem dX10_sortOf_25 : decode cX10_sortOf 25 = .ok (.iload_n 3, 1) := by decide +kernel
theorem dX10_sortOf_26 : decode cX10_sortOf 26 = .ok (.iaload, 1) := by decide +kernel
theorem dX10_sortOf_27 : decode cX10_sortOf 27 = .ok (.aload_n 0, 1) := by decide +kernel
theorem dX10_sortOf_28 : decode cX10_sortOf 28 = .ok (.getfield 37, 3) := by decide +kernel
theorem dX10_sortOf_31 : decode cX10_sortOf 31 = .ok (.iload_n 3, 1) := by decide +kernel
theorem dX10_sortOf_32 : decode cX10_sortOf 32 = .ok (.iaload, 1) := by decide +kernel
theorem dX10_sortOf_33 : decode cX10_sortOf 33 = .ok (.invokestatic 87, 3) := by decide +kernel
theorem dX10_sortOf_36 : decode cX10_sortOf 36 = .ok (.ifCond .eq 5, 3) := by decide +kernel
theorem dX10_sortOf_39 : decode cX10_sortOf 39 = .ok (.iconst 0, 1) := by decide +kernel
theorem dX10_sortOf_40 : decode cX10_sortOf 40 = .ok (.ireturn, 1) := by decide +kernel
theorem dX10_sortOf_41 : decode cX10_sortOf 41 = .ok (.iinc 3 1, 3) := by decide +kernel
theorem dX10_sortOf_44 : decode cX10_sortOf 44 = .ok (.goto (-42), 3) := by decide +kernel
theorem dX10_sortOf_47 : decode cX10_sortOf 47 = .ok (.aload_n 0, 1) := by decide +kernel
theorem dX10_sortOf_48 : decode cX10_sortOf 48 = .ok (.iconst (-1), 1) := by decide +kernel
theorem dX10_sortOf_49 : decode cX10_sortOf 49 = .ok (.iload_n 1, 1) := by decide +kernel
theorem dX10_sortOf_50 : decode cX10_sortOf 50 = .ok (.iload_n 2, 1) := by decide +kernel
theorem dX10_sortOf_51 : decode cX10_sortOf 51 = .ok (.invokevirtual 108, 3) := by decide +kernel
theorem dX10_sortOf_54 : decode cX10_sortOf 54 = .ok (.ifCond .eq 7, 3) := by decide +kernel
theorem dX10_sortOf_57 : decode cX10_sortOf 57 = .ok (.iconst 1, 1) := by decide +kernel
theorem dX10_sortOf_58 : decode cX10_sortOf 58 = .ok (.goto 4, 3) := by decide +kernel
theorem dX10_sortOf_61 : decode cX10_sortOf 61 = .ok (.iconst 2, 1) := by decide +kernel
theorem dX10_sortOf_62 : decode cX10_sortOf 62 = .ok (.ireturn, 1) := by decide +kernel
theorem dX10_minutes_0 : decode cX10_minutes 0 = .ok (.iload_n 1, 1) := by decide +kernel
theorem dX10_minutes_1 : decode cX10_minutes 1 = .ok (.iconst 0, 1) := by decide +kernel
theorem dX10_minutes_2 : decode cX10_minutes 2 = .ok (.bipush 15, 2) := by decide +kernel
theorem dX10_minutes_4 : decode cX10_minutes 4 = .ok (.invokestatic 87, 3) := by decide +kernel
theorem dX10_minutes_7 : decode cX10_minutes 7 = .ok (.ifCond .eq 21, 3) := by decide +kernel
theorem dX10_minutes_10 : decode cX10_minutes 10 = .ok (.iload_n 2, 1) := by decide +kernel
theorem dX10_minutes_11 : decode cX10_minutes 11 = .ok (.iload_n 3, 1) := by decide +kernel
theorem dX10_minutes_12 : decode cX10_minutes 12 = .ok (.invokestatic 98, 3) := by decide +kernel
theorem dX10_minutes_15 : decode cX10_minutes 15 = .ok (.ifCond .eq 13, 3) := by decide +kernel
theorem dX10_minutes_18 : decode cX10_minutes 18 = .ok (.iload 4, 2) := by decide +kernel
theorem dX10_minutes_20 : decode cX10_minutes 20 = .ok (.iconst 0, 1) := by decide +kernel
theorem dX10_minutes_21 : decode cX10_minutes 21 = .ok (.iconst 2, 1) := by decide +kernel
theorem dX10_minutes_22 : decode cX10_minutes 22 = .ok (.invokestatic 87, 3) := by decide +kernel
theorem dX10_minutes_25 : decode cX10_minutes 25 = .ok (.ifCond .ne 5, 3) := by decide +kernel
theorem dX10_minutes_28 : decode cX10_minutes 28 = .ok (.iconst (-1), 1) := by decide +kernel
theorem dX10_minutes_29 : decode cX10_minutes 29 = .ok (.ireturn, 1) := by decide +kernel
theorem dX10_minutes_30 : decode cX10_minutes 30 = .ok (.iconst 0, 1) := by decide +kernel
theorem dX10_minutes_31 : decode cX10_minutes 31 = .ok (.istore 5, 2) := by decide +kernel
theorem dX10_minutes_33 : decode cX10_minutes 33 = .ok (.iload_n 2, 1) := by decide +kernel
theorem dX10_minutes_34 : decode cX10_minutes 34 = .ok (.istore 6, 2) := by decide +kernel
theorem dX10_minutes_36 : decode cX10_minutes 36 = .ok (.iload 6, 2) := by decide +kernel
theorem dX10_minutes_38 : decode cX10_minutes 38 = .ok (.iload_n 3, 1) := by decide +kernel
theorem dX10_minutes_39 : decode cX10_minutes 39 = .ok (.if_icmp .gt 31, 3) := by decide +kernel
theorem dX10_minutes_42 : decode cX10_minutes 42 = .ok (.iload 5, 2) := by decide +kernel
theorem dX10_minutes_44 : decode cX10_minutes 44 = .ok (.aload_n 0, 1) := by decide +kernel
theorem dX10_minutes_45 : decode cX10_minutes 45 = .ok (.iload_n 1, 1) := by decide +kernel
theorem dX10_minutes_46 : decode cX10_minutes 46 = .ok (.iload 6, 2) := by decide +kernel
theorem dX10_minutes_48 : decode cX10_minutes 48 = .ok (.invokevirtual 135, 3) := by decide +kernel
theorem dX10_minutes_51 : decode cX10_minutes 51 = .ok (.iload 4, 2) := by decide +kernel
theorem dX10_minutes_53 : decode cX10_minutes 53 = .ok (.if_icmp .ne 7, 3) := by decide +kernel
theorem dX10_minutes_56 : decode cX10_minutes 56 = .ok (.iconst 1, 1) := by decide +kernel
theorem dX10_minutes_57 : decode cX10_minutes 57 = .ok (.goto 4, 3) := by decide +kernel
theorem dX10_minutes_60 : decode cX10_minutes 60 = .ok (.iconst 0, 1) := by decide +kernel
theorem dX10_minutes_61 : decode cX10_minutes 61 = .ok (.iadd, 1) := by decide +kernel
theorem dX10_minutes_62 : decode cX10_minutes 62 = .ok (.istore 5, 2) := by decide +kernel
theorem dX10_minutes_64 : decode cX10_minutes 64 = .ok (.iinc 6 1, 3) := by decide +kernel
theorem dX10_minutes_67 : decode cX10_minutes 67 = .ok (.goto (-31), 3) := by decide +kernel
theorem dX10_minutes_70 : decode cX10_minutes 70 = .ok (.iload 5, 2) := by decide +kernel
theorem dX10_minutes_72 : decode cX10_minutes 72 = .ok (.ireturn, 1) := by decide +kernel
theorem dX10_blind_0 : decode cX10_blind 0 = .ok (.iload_n 1, 1) := by decide +kernel
theorem dX10_blind_1 : decode cX10_blind 1 = .ok (.iconst 0, 1) := by decide +kernel
theorem dX10_blind_2 : decode cX10_blind 2 = .ok (.bipush 15, 2) := by decide +kernel
theorem dX10_blind_4 : decode cX10_blind 4 = .ok (.invokestatic 87, 3) := by decide +kernel
theorem dX10_blind_7 : decode cX10_blind 7 = .ok (.ifCond .eq 11, 3) := by decide +kernel
theorem dX10_blind_10 : decode cX10_blind 10 = .ok (.iload_n 2, 1) := by decide +kernel
theorem dX10_blind_11 : decode cX10_blind 11 = .ok (.iload_n 3, 1) := by decide +kernel
theorem dX10_blind_12 : decode cX10_blind 12 = .ok (.invokestatic 98, 3) := by decide +kernel
theorem dX10_blind_15 : decode cX10_blind 15 = .ok (.ifCond .ne 5, 3) := by decide +kernel
theorem dX10_blind_18 : decode cX10_blind 18 = .ok (.iconst (-1), 1) := by decide +kernel
theorem dX10_blind_19 : decode cX10_blind 19 = .ok (.ireturn, 1) := by decide +kernel
theorem dX10_blind_20 : decode cX10_blind 20 = .ok (.iconst 0, 1) := by decide +kernel
theorem dX10_blind_21 : decode cX10_blind 21 = .ok (.istore 4, 2) := by decide +kernel
theorem dX10_blind_23 : decode cX10_blind 23 = .ok (.iconst 0, 1) := by decide +kernel
theorem dX10_blind_24 : decode cX10_blind 24 = .ok (.istore 5, 2) := by decide +kernel
theorem dX10_blind_26 : decode cX10_blind 26 = .ok (.iload_n 2, 1) := by decide +kernel
theorem dX10_blind_27 : decode cX10_blind 27 = .ok (.istore 6, 2) := by decide +kernel
theorem dX10_blind_29 : decode cX10_blind 29 = .ok (.iload 6, 2) := by decide +kernel
theorem dX10_blind_31 : decode cX10_blind 31 = .ok (.iload_n 3, 1) := by decide +kernel
theorem dX10_blind_32 : decode cX10_blind 32 = .ok (.if_icmp .gt 41, 3) := by decide +kernel
theorem dX10_blind_35 : decode cX10_blind 35 = .ok (.aload_n 0, 1) := by decide +kernel
theorem dX10_blind_36 : decode cX10_blind 36 = .ok (.iload_n 1, 1) := by decide +kernel
theorem dX10_blind_37 : decode cX10_blind 37 = .ok (.iload 6, 2) := by decide +kernel
theorem dX10_blind_39 : decode cX10_blind 39 = .ok (.invokevirtual 135, 3) := by decide +kernel
theorem dX10_blind_42 : decode cX10_blind 42 = .ok (.iconst 2, 1) := by decide +kernel
theorem dX10_blind_43 : decode cX10_blind 43 = .ok (.if_icmp .ne 10, 3) := by decide +kernel
theorem dX10_blind_46 : decode cX10_blind 46 = .ok (.iload 5, 2) := by decide +kernel
theorem dX10_blind_48 : decode cX10_blind 48 = .ok (.iconst 1, 1) := by decide +kernel
theorem dX10_blind_49 : decode cX10_blind 49 = .ok (.iadd, 1) := by decide +kernel
theorem dX10_blind_50 : decode cX10_blind 50 = .ok (.goto 4, 3) := by decide +kernel
theorem dX10_blind_53 : decode cX10_blind 53 = .ok (.iconst 0, 1) := by decide +kernel
theorem dX10_blind_54 : decode cX10_blind 54 = .ok (.istore 5, 2) := by decide +kernel
theorem dX10_blind_56 : decode cX10_blind 56 = .ok (.iload 5, 2) := by decide +kernel
theorem dX10_blind_58 : decode cX10_blind 58 = .ok (.iload 4, 2) := by decide +kernel
theorem dX10_blind_60 : decode cX10_blind 60 = .ok (.if_icmp .le 7, 3) := by decide +kernel
theorem dX10_blind_63 : decode cX10_blind 63 = .ok (.iload 5, 2) := by decide +kernel
theorem dX10_blind_65 : decode cX10_blind 65 = .ok (.istore 4, 2) := by decide +kernel
theorem dX10_blind_67 : decode cX10_blind 67 = .ok (.iinc 6 1, 3) := by decide +kernel
theorem dX10_blind_70 : decode cX10_blind 70 = .ok (.goto (-41), 3) := by decide +kernel
theorem dX10_blind_73 : decode cX10_blind 73 = .ok (.iload 4, 2) := by decide +kernel
theorem dX10_blind_75 : decode cX10_blind 75 = .ok (.ireturn, 1) := by decide +kernel
theorem dX10_four_0 : decode cX10_four 0 = .ok (.bipush 24, 2) := by decide +kernel
theorem dX10_four_2 : decode cX10_four 2 = .ok (.istore_n 2, 1) := by decide +kernel
theorem dX10_four_3 : decode cX10_four 3 = .ok (.iload_n 2, 1) := by decide +kernel
theorem dX10_four_4 : decode cX10_four 4 = .ok (.ifCond .lt 35, 3) := by decide +kernel
theorem dX10_four_7 : decode cX10_four 7 = .ok (.aload_n 0, 1) := by decide +kernel
theorem dX10_four_8 : decode cX10_four 8 = .ok (.getfield 63, 3) := by decide +kernel
theorem dX10_four_11 : decode cX10_four 11 = .ok (.aload_n 0, 1) := by decide +kernel
theorem dX10_four_12 : decode cX10_four 12 = .ok (.getfield 139, 3) := by decide +kernel
theorem dX10_four_15 : decode cX10_four 15 = .ok (.iload_n 1, 1) := by decide +kernel
theorem dX10_four_16 : decode cX10_four 16 = .ok (.iload_n 2, 1) := by decide +kernel
theorem dX10_four_17 : decode cX10_four 17 = .ok (.ishr, 1) := by decide +kernel
theorem dX10_four_18 : decode cX10_four 18 = .ok (.sipush 255, 3) := by decide +kernel
theorem dX10_four_21 : decode cX10_four 21 = .ok (.iand, 1) := by decide +kernel
theorem dX10_four_22 : decode cX10_four 22 = .ok (.iastore, 1) := by decide +kernel
theorem dX10_four_23 : decode cX10_four 23 = .ok (.aload_n 0, 1) := by decide +kernel
theorem dX10_four_24 : decode cX10_four 24 = .ok (.dup, 1) := by decide +kernel
theorem dX10_four_25 : decode cX10_four 25 = .ok (.getfield 139, 3) := by decide +kernel
theorem dX10_four_28 : decode cX10_four 28 = .ok (.iconst 1, 1) := by decide +kernel
theorem dX10_four_29 : decode cX10_four 29 = .ok (.iadd, 1) := by decide +kernel
theorem dX10_four_30 : decode cX10_four 30 = .ok (.putfield 139, 3) := by decide +kernel
theorem dX10_four_33 : decode cX10_four 33 = .ok (.iinc 2 (-8), 3) := by decide +kernel
theorem dX10_four_36 : decode cX10_four 36 = .ok (.goto (-33), 3) := by decide +kernel
theorem dX10_four_39 : decode cX10_four 39 = .ok (.return_, 1) := by decide +kernel
theorem dX10_feed_0 : decode cX10_feed 0 = .ok (.aload_n 0, 1) := by decide +kernel
theorem dX10_feed_1 : decode cX10_feed 1 = .ok (.getfield 139, 3) := by decide +kernel
theorem dX10_feed_4 : decode cX10_feed 4 = .ok (.bipush 20, 2) := by decide +kernel
theorem dX10_feed_6 : decode cX10_feed 6 = .ok (.iadd, 1) := by decide +kernel
theorem dX10_feed_7 : decode cX10_feed 7 = .ok (.bipush 100, 2) := by decide +kernel
theorem dX10_feed_9 : decode cX10_feed 9 = .ok (.if_icmp .le 5, 3) := by decide +kernel
theorem dX10_feed_12 : decode cX10_feed 12 = .ok (.iconst (-1), 1) := by decide +kernel
theorem dX10_feed_13 : decode cX10_feed 13 = .ok (.ireturn, 1) := by decide +kernel
theorem dX10_feed_14 : decode cX10_feed 14 = .ok (.aload_n 0, 1) := by decide +kernel
theorem dX10_feed_15 : decode cX10_feed 15 = .ok (.iload_n 1, 1) := by decide +kernel
theorem dX10_feed_16 : decode cX10_feed 16 = .ok (.invokevirtual 142, 3) := by decide +kernel
theorem dX10_feed_19 : decode cX10_feed 19 = .ok (.aload_n 0, 1) := by decide +kernel
theorem dX10_feed_20 : decode cX10_feed 20 = .ok (.iload_n 2, 1) := by decide +kernel
theorem dX10_feed_21 : decode cX10_feed 21 = .ok (.invokevirtual 142, 3) := by decide +kernel
theorem dX10_feed_24 : decode cX10_feed 24 = .ok (.aload_n 0, 1) := by decide +kernel
theorem dX10_feed_25 : decode cX10_feed 25 = .ok (.iload_n 3, 1) := by decide +kernel
theorem dX10_feed_26 : decode cX10_feed 26 = .ok (.invokevirtual 142, 3) := by decide +kernel
theorem dX10_feed_29 : decode cX10_feed 29 = .ok (.aload_n 0, 1) := by decide +kernel
theorem dX10_feed_30 : decode cX10_feed 30 = .ok (.iload 4, 2) := by decide +kernel
theorem dX10_feed_32 : decode cX10_feed 32 = .ok (.invokevirtual 142, 3) := by decide +kernel
theorem dX10_feed_35 : decode cX10_feed 35 = .ok (.aload_n 0, 1) := by decide +kernel
theorem dX10_feed_36 : decode cX10_feed 36 = .ok (.iload 5, 2) := by decide +kernel
theorem dX10_feed_38 : decode cX10_feed 38 = .ok (.invokevirtual 142, 3) := by decide +kernel
theorem dX10_feed_41 : decode cX10_feed 41 = .ok (.aload_n 0, 1) := by decide +kernel
theorem dX10_feed_42 : decode cX10_feed 42 = .ok (.getfield 139, 3) := by decide +kernel
theorem dX10_feed_45 : decode cX10_feed 45 = .ok (.ireturn, 1) := by decide +kernel
theorem dX10_end_0 : decode cX10_end 0 = .ok (.iload_n 1, 1) := by decide +kernel
theorem dX10_end_1 : decode cX10_end 1 = .ok (.iconst 0, 1) := by decide +kernel
theorem dX10_end_2 : decode cX10_end 2 = .ok (.aload_n 0, 1) := by decide +kernel
theorem dX10_end_3 : decode cX10_end 3 = .ok (.getfield 139, 3) := by decide +kernel
theorem dX10_end_6 : decode cX10_end 6 = .ok (.invokestatic 87, 3) := by decide +kernel
theorem dX10_end_9 : decode cX10_end 9 = .ok (.ifCond .ne 5, 3) := by decide +kernel
theorem dX10_end_12 : decode cX10_end 12 = .ok (.iconst (-1), 1) := by decide +kernel
theorem dX10_end_13 : decode cX10_end 13 = .ok (.ireturn, 1) := by decide +kernel
theorem dX10_end_14 : decode cX10_end 14 = .ok (.aload_n 0, 1) := by decide +kernel
theorem dX10_end_15 : decode cX10_end 15 = .ok (.iload_n 1, 1) := by decide +kernel
theorem dX10_end_16 : decode cX10_end 16 = .ok (.putfield 139, 3) := by decide +kernel
theorem dX10_end_19 : decode cX10_end 19 = .ok (.iload_n 1, 1) := by decide +kernel
theorem dX10_end_20 : decode cX10_end 20 = .ok (.ireturn, 1) := by decide +kernel
theorem dX10_see_0 : decode cX10_see 0 = .ok (.iload_n 1, 1) := by decide +kernel
theorem dX10_see_1 : decode cX10_see 1 = .ok (.aload_n 0, 1) := by decide +kernel
theorem dX10_see_2 : decode cX10_see 2 = .ok (.getfield 139, 3) := by decide +kernel
theorem dX10_see_5 : decode cX10_see 5 = .ok (.if_icmp .ge 12, 3) := by decide +kernel
theorem dX10_see_8 : decode cX10_see 8 = .ok (.aload_n 0, 1) := by decide +kernel
theorem dX10_see_9 : decode cX10_see 9 = .ok (.getfield 63, 3) := by decide +kernel
theorem dX10_see_12 : decode cX10_see 12 = .ok (.iload_n 1, 1) := by decide +kernel
theorem dX10_see_13 : decode cX10_see 13 = .ok (.iaload, 1) := by decide +kernel
theorem dX10_see_14 : decode cX10_see 14 = .ok (.goto 4, 3) := by decide +kernel
theorem dX10_see_17 : decode cX10_see 17 = .ok (.iconst (-1), 1) := by decide +kernel
theorem dX10_see_18 : decode cX10_see 18 = .ok (.ireturn, 1) := by decide +kernel
theorem dX10_isLetter_0 : decode cX10_isLetter 0 = .ok (.iload_n 0, 1) := by decide +kernel
theorem dX10_isLetter_1 : decode cX10_isLetter 1 = .ok (.bipush 97, 2) := by decide +kernel
theorem dX10_isLetter_3 : decode cX10_isLetter 3 = .ok (.bipush 122, 2) := by decide +kernel
theorem dX10_isLetter_5 : decode cX10_isLetter 5 = .ok (.invokestatic 87, 3) := by decide +kernel
theorem dX10_isLetter_8 : decode cX10_isLetter 8 = .ok (.ifCond .ne 14, 3) := by decide +kernel
theorem dX10_isLetter_11 : decode cX10_isLetter 11 = .ok (.iload_n 0, 1) := by decide +kernel
theorem dX10_isLetter_12 : decode cX10_isLetter 12 = .ok (.bipush 65, 2) := by decide +kernel
theorem dX10_isLetter_14 : decode cX10_isLetter 14 = .ok (.bipush 90, 2) := by decide +kernel
theorem dX10_isLetter_16 : decode cX10_isLetter 16 = .ok (.invokestatic 87, 3) := by decide +kernel
theorem dX10_isLetter_19 : decode cX10_isLetter 19 = .ok (.ifCond .eq 7, 3) := by decide +kernel
theorem dX10_isLetter_22 : decode cX10_isLetter 22 = .ok (.iconst 1, 1) := by decide +kernel
theorem dX10_isLetter_23 : decode cX10_isLetter 23 = .ok (.goto 4, 3) := by decide +kernel
theorem dX10_isLetter_26 : decode cX10_isLetter 26 = .ok (.iconst 0, 1) := by decide +kernel
theorem dX10_isLetter_27 : decode cX10_isLetter 27 = .ok (.ireturn, 1) := by decide +kernel
theorem dX10_isDigit_0 : decode cX10_isDigit 0 = .ok (.iload_n 0, 1) := by decide +kernel
theorem dX10_isDigit_1 : decode cX10_isDigit 1 = .ok (.bipush 48, 2) := by decide +kernel
theorem dX10_isDigit_3 : decode cX10_isDigit 3 = .ok (.bipush 57, 2) := by decide +kernel
theorem dX10_isDigit_5 : decode cX10_isDigit 5 = .ok (.invokestatic 87, 3) := by decide +kernel
theorem dX10_isDigit_8 : decode cX10_isDigit 8 = .ok (.ireturn, 1) := by decide +kernel
theorem dX10_pack_0 : decode cX10_pack 0 = .ok (.iload_n 0, 1) := by decide +kernel
theorem dX10_pack_1 : decode cX10_pack 1 = .ok (.bipush 7, 2) := by decide +kernel
theorem dX10_pack_3 : decode cX10_pack 3 = .ok (.ishl, 1) := by decide +kernel
theorem dX10_pack_4 : decode cX10_pack 4 = .ok (.iload_n 1, 1) := by decide +kernel
theorem dX10_pack_5 : decode cX10_pack 5 = .ok (.ior, 1) := by decide +kernel
theorem dX10_pack_6 : decode cX10_pack 6 = .ok (.bipush 7, 2) := by decide +kernel
theorem dX10_pack_8 : decode cX10_pack 8 = .ok (.ishl, 1) := by decide +kernel
theorem dX10_pack_9 : decode cX10_pack 9 = .ok (.iload_n 2, 1) := by decide +kernel
theorem dX10_pack_10 : decode cX10_pack 10 = .ok (.ior, 1) := by decide +kernel
theorem dX10_pack_11 : decode cX10_pack 11 = .ok (.bipush 7, 2) := by decide +kernel
theorem dX10_pack_13 : decode cX10_pack 13 = .ok (.ishl, 1) := by decide +kernel
theorem dX10_pack_14 : decode cX10_pack 14 = .ok (.iload_n 3, 1) := by decide +kernel
theorem dX10_pack_15 : decode cX10_pack 15 = .ok (.ior, 1) := by decide +kernel
theorem dX10_pack_16 : decode cX10_pack 16 = .ok (.ireturn, 1) := by decide +kernel
theorem dX10_wordOf_0 : decode cX10_wordOf 0 = .ok (.iload_n 0, 1) := by decide +kernel
theorem dX10_wordOf_1 : decode cX10_wordOf 1 = .ok (.bipush 99, 2) := by decide +kernel
theorem dX10_wordOf_3 : decode cX10_wordOf 3 = .ok (.bipush 104, 2) := by decide +kernel
theorem dX10_wordOf_5 : decode cX10_wordOf 5 = .ok (.bipush 97, 2) := by decide +kernel
theorem dX10_wordOf_7 : decode cX10_wordOf 7 = .ok (.bipush 110, 2) := by decide +kernel
theorem dX10_wordOf_9 : decode cX10_wordOf 9 = .ok (.invokestatic 146, 3) := by decide +kernel
theorem dX10_wordOf_12 : decode cX10_wordOf 12 = .ok (.if_icmp .ne 7, 3) := by decide +kernel
theorem dX10_wordOf_15 : decode cX10_wordOf 15 = .ok (.iconst 5, 1) := by decide +kernel
theorem dX10_wordOf_16 : decode cX10_wordOf 16 = .ok (.goto 63, 3) := by decide +kernel
theorem dX10_wordOf_19 : decode cX10_wordOf 19 = .ok (.iload_n 0, 1) := by decide +kernel
theorem dX10_wordOf_20 : decode cX10_wordOf 20 = .ok (.bipush 116, 2) := by decide +kernel
theorem dX10_wordOf_22 : decode cX10_wordOf 22 = .ok (.bipush 105, 2) := by decide +kernel
theorem dX10_wordOf_24 : decode cX10_wordOf 24 = .ok (.bipush 109, 2) := by decide +kernel
theorem dX10_wordOf_26 : decode cX10_wordOf 26 = .ok (.bipush 101, 2) := by decide +kernel
theorem dX10_wordOf_28 : decode cX10_wordOf 28 = .ok (.invokestatic 146, 3) := by decide +kernel
theorem dX10_wordOf_31 : decode cX10_wordOf 31 = .ok (.if_icmp .ne 8, 3) := by decide +kernel
theorem dX10_wordOf_34 : decode cX10_wordOf 34 = .ok (.bipush 6, 2) := by decide +kernel
theorem dX10_wordOf_36 : decode cX10_wordOf 36 = .ok (.goto 43, 3) := by decide +kernel
theorem dX10_wordOf_39 : decode cX10_wordOf 39 = .ok (.iload_n 0, 1) := by decide +kernel
theorem dX10_wordOf_40 : decode cX10_wordOf 40 = .ok (.bipush 116, 2) := by decide +kernel
theorem dX10_wordOf_42 : decode cX10_wordOf 42 = .ok (.bipush 111, 2) := by decide +kernel
theorem dX10_wordOf_44 : decode cX10_wordOf 44 = .ok (.bipush 110, 2) := by decide +kernel
theorem dX10_wordOf_46 : decode cX10_wordOf 46 = .ok (.bipush 101, 2) := by decide +kernel
theorem dX10_wordOf_48 : decode cX10_wordOf 48 = .ok (.invokestatic 146, 3) := by decide +kernel
theorem dX10_wordOf_51 : decode cX10_wordOf 51 = .ok (.if_icmp .ne 8, 3) := by decide +kernel
theorem dX10_wordOf_54 : decode cX10_wordOf 54 = .ok (.bipush 7, 2) := by decide +kernel
theorem dX10_wordOf_56 : decode cX10_wordOf 56 = .ok (.goto 23, 3) := by decide +kernel
theorem dX10_wordOf_59 : decode cX10_wordOf 59 = .ok (.iload_n 0, 1) := by decide +kernel
theorem dX10_wordOf_60 : decode cX10_wordOf 60 = .ok (.iconst 0, 1) := by decide +kernel
theorem dX10_wordOf_61 : decode cX10_wordOf 61 = .ok (.bipush 98, 2) := by decide +kernel
theorem dX10_wordOf_63 : decode cX10_wordOf 63 = .ok (.bipush 111, 2) := by decide +kernel
theorem dX10_wordOf_65 : decode cX10_wordOf 65 = .ok (.bipush 120, 2) := by decide +kernel
theorem dX10_wordOf_67 : decode cX10_wordOf 67 = .ok (.invokestatic 146, 3) := by decide +kernel
theorem dX10_wordOf_70 : decode cX10_wordOf 70 = .ok (.if_icmp .ne 8, 3) := by decide +kernel
theorem dX10_wordOf_73 : decode cX10_wordOf 73 = .ok (.bipush 8, 2) := by decide +kernel
theorem dX10_wordOf_75 : decode cX10_wordOf 75 = .ok (.goto 4, 3) := by decide +kernel
theorem dX10_wordOf_78 : decode cX10_wordOf 78 = .ok (.iconst 4, 1) := by decide +kernel
theorem dX10_wordOf_79 : decode cX10_wordOf 79 = .ok (.ireturn, 1) := by decide +kernel
theorem dX10_nextToken_0 : decode cX10_nextToken 0 = .ok (.aload_n 0, 1) := by decide +kernel
theorem dX10_nextToken_1 : decode cX10_nextToken 1 = .ok (.aload_n 0, 1) := by decide +kernel
theorem dX10_nextToken_2 : decode cX10_nextToken 2 = .ok (.getfield 150, 3) := by decide +kernel
theorem dX10_nextToken_5 : decode cX10_nextToken 5 = .ok (.invokevirtual 153, 3) := by decide +kernel
theorem dX10_nextToken_8 : decode cX10_nextToken 8 = .ok (.bipush 32, 2) := by decide +kernel
theorem dX10_nextToken_10 : decode cX10_nextToken 10 = .ok (.if_icmp .ne 16, 3) := by decide +kernel
theorem dX10_nextToken_13 : decode cX10_nextToken 13 = .ok (.aload_n 0, 1) := by decide +kernel
theorem dX10_nextToken_14 : decode cX10_nextToken 14 = .ok (.dup, 1) := by decide +kernel
theorem dX10_nextToken_15 : decode cX10_nextToken 15 = .ok (.getfield 150, 3) := by decide +kernel
theorem dX10_nextToken_18 : decode cX10_nextToken 18 = .ok (.iconst 1, 1) := by decide +kernel
theorem dX10_nextToken_19 : decode cX10_nextToken 19 = .ok (.iadd, 1) := by decide +kernel
theorem dX10_nextToken_20 : decode cX10_nextToken 20 = .ok (.putfield 150, 3) := by decide +kernel
theorem dX10_nextToken_23 : decode cX10_nextToken 23 = .ok (.goto (-23), 3) := by decide +kernel
theorem dX10_nextToken_26 : decode cX10_nextToken 26 = .ok (.aload_n 0, 1) := by decide +kernel
theorem dX10_nextToken_27 : decode cX10_nextToken 27 = .ok (.aload_n 0, 1) := by decide +kernel
theorem dX10_nextToken_28 : decode cX10_nextToken 28 = .ok (.getfield 150, 3) := by decide +kernel
theorem dX10_nextToken_31 : decode cX10_nextToken 31 = .ok (.putfield 157, 3) := by decide +kernel
theorem dX10_nextToken_34 : decode cX10_nextToken 34 = .ok (.aload_n 0, 1) := by decide +kernel
theorem dX10_nextToken_35 : decode cX10_nextToken 35 = .ok (.aload_n 0, 1) := by decide +kernel
theorem dX10_nextToken_36 : decode cX10_nextToken 36 = .ok (.getfield 150, 3) := by decide +kernel
theorem dX10_nextToken_39 : decode cX10_nextToken 39 = .ok (.invokevirtual 153, 3) := by decide +kernel
theorem dX10_nextToken_42 : decode cX10_nextToken 42 = .ok (.istore_n 1, 1) := by decide +kernel
theorem dX10_nextToken_43 : decode cX10_nextToken 43 = .ok (.iload_n 1, 1) := by decide +kernel
theorem dX10_nextToken_44 : decode cX10_nextToken 44 = .ok (.ifCond .ge 11, 3) := by decide +kernel
theorem dX10_nextToken_47 : decode cX10_nextToken 47 = .ok (.aload_n 0, 1) := by decide +kernel
theorem dX10_nextToken_48 : decode cX10_nextToken 48 = .ok (.iconst 0, 1) := by decide +kernel
theorem dX10_nextToken_49 : decode cX10_nextToken 49 = .ok (.putfield 160, 3) := by decide +kernel
theorem dX10_nextToken_52 : decode cX10_nextToken 52 = .ok (.goto 205, 3) := by decide +kernel
theorem dX10_nextToken_55 : decode cX10_nextToken 55 = .ok (.iload_n 1, 1) := by decide +kernel
theorem dX10_nextToken_56 : decode cX10_nextToken 56 = .ok (.invokestatic 163, 3) := by decide +kernel
theorem dX10_nextToken_59 : decode cX10_nextToken 59 = .ok (.ifCond .eq 72, 3) := by decide +kernel
theorem dX10_nextToken_62 : decode cX10_nextToken 62 = .ok (.aload_n 0, 1) := by decide +kernel
theorem dX10_nextToken_63 : decode cX10_nextToken 63 = .ok (.iconst 1, 1) := by decide +kernel
theorem dX10_nextToken_64 : decode cX10_nextToken 64 = .ok (.putfield 160, 3) := by decide +kernel
theorem dX10_nextToken_67 : decode cX10_nextToken 67 = .ok (.aload_n 0, 1) := by decide +kernel
theorem dX10_nextToken_68 : decode cX10_nextToken 68 = .ok (.iconst 0, 1) := by decide +kernel
theorem dX10_nextToken_69 : decode cX10_nextToken 69 = .ok (.putfield 166, 3) := by decide +kernel
theorem dX10_nextToken_72 : decode cX10_nextToken 72 = .ok (.aload_n 0, 1) := by decide +kernel
theorem dX10_nextToken_73 : decode cX10_nextToken 73 = .ok (.aload_n 0, 1) := by decide +kernel
theorem dX10_nextToken_74 : decode cX10_nextToken 74 = .ok (.getfield 150, 3) := by decide +kernel
theorem dX10_nextToken_77 : decode cX10_nextToken 77 = .ok (.invokevirtual 153, 3) := by decide +kernel
theorem dX10_nextToken_80 : decode cX10_nextToken 80 = .ok (.invokestatic 163, 3) := by decide +kernel
theorem dX10_nextToken_83 : decode cX10_nextToken 83 = .ok (.ifCond .eq 174, 3) := by decide +kernel
theorem dX10_nextToken_86 : decode cX10_nextToken 86 = .ok (.aload_n 0, 1) := by decide +kernel
theorem dX10_nextToken_87 : decode cX10_nextToken 87 = .ok (.getfield 166, 3) := by decide +kernel
theorem dX10_nextToken_90 : decode cX10_nextToken 90 = .ok (.ldc 169, 2) := by decide +kernel
theorem dX10_nextToken_92 : decode cX10_nextToken 92 = .ok (.if_icmp .ge 26, 3) := by decide +kernel
theorem dX10_nextToken_95 : decode cX10_nextToken 95 = .ok (.aload_n 0, 1) := by decide +kernel
theorem dX10_nextToken_96 : decode cX10_nextToken 96 = .ok (.bipush 10, 2) := by decide +kernel
theorem dX10_nextToken_98 : decode cX10_nextToken 98 = .ok (.aload_n 0, 1) := by decide +kernel
theorem dX10_nextToken_99 : decode cX10_nextToken 99 = .ok (.getfield 166, 3) := by decide +kernel
theorem dX10_nextToken_102 : decode cX10_nextToken 102 = .ok (.imul, 1) := by decide +kernel
theorem dX10_nextToken_103 : decode cX10_nextToken 103 = .ok (.aload_n 0, 1) := by decide +kernel
theorem dX10_nextToken_104 : decode cX10_nextToken 104 = .ok (.aload_n 0, 1) := by decide +kernel
theorem dX10_nextToken_105 : decode cX10_nextToken 105 = .ok (.getfield 150, 3) := by decide +kernel
theorem dX10_nextToken_108 : decode cX10_nextToken 108 = .ok (.invokevirtual 153, 3) := by decide +kernel
theorem dX10_nextToken_111 : decode cX10_nextToken 111 = .ok (.iadd, 1) := by decide +kernel
theorem dX10_nextToken_112 : decode cX10_nextToken 112 = .ok (.bipush 48, 2) := by decide +kernel
theorem dX10_nextToken_114 : decode cX10_nextToken 114 = .ok (.isub, 1) := by decide +kernel
theorem dX10_nextToken_115 : decode cX10_nextToken 115 = .ok (.putfield 166, 3) := by decide +kernel
theorem dX10_nextToken_118 : decode cX10_nextToken 118 = .ok (.aload_n 0, 1) := by decide +kernel
theorem dX10_nextToken_119 : decode cX10_nextToken 119 = .ok (.dup, 1) := by decide +kernel
theorem dX10_nextToken_120 : decode cX10_nextToken 120 = .ok (.getfield 150, 3) := by decide +kernel
theorem dX10_nextToken_123 : decode cX10_nextToken 123 = .ok (.iconst 1, 1) := by decide +kernel
theorem dX10_nextToken_124 : decode cX10_nextToken 124 = .ok (.iadd, 1) := by decide +kernel
theorem dX10_nextToken_125 : decode cX10_nextToken 125 = .ok (.putfield 150, 3) := by decide +kernel
theorem dX10_nextToken_128 : decode cX10_nextToken 128 = .ok (.goto (-56), 3) := by decide +kernel
theorem dX10_nextToken_131 : decode cX10_nextToken 131 = .ok (.iload_n 1, 1) := by decide +kernel
theorem dX10_nextToken_132 : decode cX10_nextToken 132 = .ok (.invokestatic 170, 3) := by decide +kernel
theorem dX10_nextToken_135 : decode cX10_nextToken 135 = .ok (.ifCond .eq 87, 3) := by decide +kernel
theorem dX10_nextToken_138 : decode cX10_nextToken 138 = .ok (.iconst 0, 1) := by decide +kernel
theorem dX10_nextToken_139 : decode cX10_nextToken 139 = .ok (.istore_n 2, 1) := by decide +kernel
theorem dX10_nextToken_140 : decode cX10_nextToken 140 = .ok (.aload_n 0, 1) := by decide +kernel
theorem dX10_nextToken_141 : decode cX10_nextToken 141 = .ok (.aload_n 0, 1) := by decide +kernel
theorem dX10_nextToken_142 : decode cX10_nextToken 142 = .ok (.getfield 150, 3) := by decide +kernel
theorem dX10_nextToken_145 : decode cX10_nextToken 145 = .ok (.invokevirtual 153, 3) := by decide +kernel
theorem dX10_nextToken_148 : decode cX10_nextToken 148 = .ok (.invokestatic 170, 3) := by decide +kernel
theorem dX10_nextToken_151 : decode cX10_nextToken 151 = .ok (.ifCond .eq 43, 3) := by decide +kernel
theorem dX10_nextToken_154 : decode cX10_nextToken 154 = .ok (.aload_n 0, 1) := by decide +kernel
theorem dX10_nextToken_155 : decode cX10_nextToken 155 = .ok (.getfield 150, 3) := by decide +kernel
theorem dX10_nextToken_158 : decode cX10_nextToken 158 = .ok (.aload_n 0, 1) := by decide +kernel
theorem dX10_nextToken_159 : decode cX10_nextToken 159 = .ok (.getfield 157, 3) := by decide +kernel
theorem dX10_nextToken_162 : decode cX10_nextToken 162 = .ok (.isub, 1) := by decide +kernel
theorem dX10_nextToken_163 : decode cX10_nextToken 163 = .ok (.iconst 4, 1) := by decide +kernel
theorem dX10_nextToken_164 : decode cX10_nextToken 164 = .ok (.if_icmp .ge 17, 3) := by decide +kernel
theorem dX10_nextToken_167 : decode cX10_nextToken 167 = .ok (.iload_n 2, 1) := by decide +kernel
theorem dX10_nextToken_168 : decode cX10_nextToken 168 = .ok (.bipush 7, 2) := by decide +kernel
theorem dX10_nextToken_170 : decode cX10_nextToken 170 = .ok (.ishl, 1) := by decide +kernel
theorem dX10_nextToken_171 : decode cX10_nextToken 171 = .ok (.aload_n 0, 1) := by decide +kernel
theorem dX10_nextToken_172 : decode cX10_nextToken 172 = .ok (.aload_n 0, 1) := by decide +kernel
theorem dX10_nextToken_173 : decode cX10_nextToken 173 = .ok (.getfield 150, 3) := by decide +kernel
theorem dX10_nextToken_176 : decode cX10_nextToken 176 = .ok (.invokevirtual 153, 3) := by decide +kernel
theorem dX10_nextToken_179 : decode cX10_nextToken 179 = .ok (.ior, 1) := by decide +kernel
theorem dX10_nextToken_180 : decode cX10_nextToken 180 = .ok (.istore_n 2, 1) := by decide +kernel
theorem dX10_nextToken_181 : decode cX10_nextToken 181 = .ok (.aload_n 0, 1) := by decide +kernel
theorem dX10_nextToken_182 : decode cX10_nextToken 182 = .ok (.dup, 1) := by decide +kernel
theorem dX10_nextToken_183 : decode cX10_nextToken 183 = .ok (.getfield 150, 3) := by decide +kernel
theorem dX10_nextToken_186 : decode cX10_nextToken 186 = .ok (.iconst 1, 1) := by decide +kernel
theorem dX10_nextToken_187 : decode cX10_nextToken 187 = .ok (.iadd, 1) := by decide +kernel
theorem dX10_nextToken_188 : decode cX10_nextToken 188 = .ok (.putfield 150, 3) := by decide +kernel
theorem dX10_nextToken_191 : decode cX10_nextToken 191 = .ok (.goto (-51), 3) := by decide +kernel
theorem dX10_nextToken_194 : decode cX10_nextToken 194 = .ok (.aload_n 0, 1) := by decide +kernel
theorem dX10_nextToken_195 : decode cX10_nextToken 195 = .ok (.aload_n 0, 1) := by decide +kernel
theorem dX10_nextToken_196 : decode cX10_nextToken 196 = .ok (.getfield 150, 3) := by decide +kernel
theorem dX10_nextToken_199 : decode cX10_nextToken 199 = .ok (.aload_n 0, 1) := by decide +kernel
theorem dX10_nextToken_200 : decode cX10_nextToken 200 = .ok (.getfield 157, 3) := by decide +kernel
theorem dX10_nextToken_203 : decode cX10_nextToken 203 = .ok (.isub, 1) := by decide +kernel
theorem dX10_nextToken_204 : decode cX10_nextToken 204 = .ok (.iconst 4, 1) := by decide +kernel
theorem dX10_nextToken_205 : decode cX10_nextToken 205 = .ok (.if_icmp .le 7, 3) := by decide +kernel
theorem dX10_nextToken_208 : decode cX10_nextToken 208 = .ok (.iconst 4, 1) := by decide +kernel
theorem dX10_nextToken_209 : decode cX10_nextToken 209 = .ok (.goto 7, 3) := by decide +kernel
theorem dX10_nextToken_212 : decode cX10_nextToken 212 = .ok (.iload_n 2, 1) := by decide +kernel
theorem dX10_nextToken_213 : decode cX10_nextToken 213 = .ok (.invokestatic 173, 3) := by decide +kernel
theorem dX10_nextToken_216 : decode cX10_nextToken 216 = .ok (.putfield 160, 3) := by decide +kernel
theorem dX10_nextToken_219 : decode cX10_nextToken 219 = .ok (.goto 38, 3) := by decide +kernel
theorem dX10_nextToken_222 : decode cX10_nextToken 222 = .ok (.aload_n 0, 1) := by decide +kernel
theorem dX10_nextToken_223 : decode cX10_nextToken 223 = .ok (.iload_n 1, 1) := by decide +kernel
theorem dX10_nextToken_224 : decode cX10_nextToken 224 = .ok (.bipush 59, 2) := by decide +kernel
theorem dX10_nextToken_226 : decode cX10_nextToken 226 = .ok (.if_icmp .ne 7, 3) := by decide +kernel
theorem dX10_nextToken_229 : decode cX10_nextToken 229 = .ok (.iconst 2, 1) := by decide +kernel
theorem dX10_nextToken_230 : decode cX10_nextToken 230 = .ok (.goto 14, 3) := by decide +kernel
theorem dX10_nextToken_233 : decode cX10_nextToken 233 = .ok (.iload_n 1, 1) := by decide +kernel
theorem dX10_nextToken_234 : decode cX10_nextToken 234 = .ok (.bipush 45, 2) := by decide +kernel
theorem dX10_nextToken_236 : decode cX10_nextToken 236 = .ok (.if_icmp .ne 7, 3) := by decide +kernel
theorem dX10_nextToken_239 : decode cX10_nextToken 239 = .ok (.iconst 3, 1) := by decide +kernel
theorem dX10_nextToken_240 : decode cX10_nextToken 240 = .ok (.goto 4, 3) := by decide +kernel
theorem dX10_nextToken_243 : decode cX10_nextToken 243 = .ok (.iconst 4, 1) := by decide +kernel
theorem dX10_nextToken_244 : decode cX10_nextToken 244 = .ok (.putfield 160, 3) := by decide +kernel
theorem dX10_nextToken_247 : decode cX10_nextToken 247 = .ok (.aload_n 0, 1) := by decide +kernel
theorem dX10_nextToken_248 : decode cX10_nextToken 248 = .ok (.dup, 1) := by decide +kernel
theorem dX10_nextToken_249 : decode cX10_nextToken 249 = .ok (.getfield 150, 3) := by decide +kernel
theorem dX10_nextToken_252 : decode cX10_nextToken 252 = .ok (.iconst 1, 1) := by decide +kernel
theorem dX10_nextToken_253 : decode cX10_nextToken 253 = .ok (.iadd, 1) := by decide +kernel
theorem dX10_nextToken_254 : decode cX10_nextToken 254 = .ok (.putfield 150, 3) := by decide +kernel
theorem dX10_nextToken_257 : decode cX10_nextToken 257 = .ok (.return_, 1) := by decide +kernel
theorem dX10_span_0 : decode cX10_span 0 = .ok (.aload_n 0, 1) := by decide +kernel
theorem dX10_span_1 : decode cX10_span 1 = .ok (.getfield 160, 3) := by decide +kernel
theorem dX10_span_4 : decode cX10_span 4 = .ok (.iconst 1, 1) := by decide +kernel
theorem dX10_span_5 : decode cX10_span 5 = .ok (.if_icmp .eq 5, 3) := by decide +kernel
theorem dX10_span_8 : decode cX10_span 8 = .ok (.iconst 1, 1) := by decide +kernel
theorem dX10_span_9 : decode cX10_span 9 = .ok (.ireturn, 1) := by decide +kernel
theorem dX10_span_10 : decode cX10_span 10 = .ok (.aload_n 0, 1) := by decide +kernel
theorem dX10_span_11 : decode cX10_span 11 = .ok (.getfield 166, 3) := by decide +kernel
theorem dX10_span_14 : decode cX10_span 14 = .ok (.iload_n 2, 1) := by decide +kernel
theorem dX10_span_15 : decode cX10_span 15 = .ok (.if_icmp .le 5, 3) := by decide +kernel
theorem dX10_span_18 : decode cX10_span 18 = .ok (.iconst 3, 1) := by decide +kernel
theorem dX10_span_19 : decode cX10_span 19 = .ok (.ireturn, 1) := by decide +kernel
theorem dX10_span_20 : decode cX10_span 20 = .ok (.aload_n 0, 1) := by decide +kernel
theorem dX10_span_21 : decode cX10_span 21 = .ok (.getfield 166, 3) := by decide +kernel
theorem dX10_span_24 : decode cX10_span 24 = .ok (.istore 4, 2) := by decide +kernel
theorem dX10_span_26 : decode cX10_span 26 = .ok (.aload_n 0, 1) := by decide +kernel
theorem dX10_span_27 : decode cX10_span 27 = .ok (.invokevirtual 176, 3) := by decide +kernel
theorem dX10_span_30 : decode cX10_span 30 = .ok (.aload_n 0, 1) := by decide +kernel
theorem dX10_span_31 : decode cX10_span 31 = .ok (.getfield 160, 3) := by decide +kernel
theorem dX10_span_34 : decode cX10_span 34 = .ok (.iconst 3, 1) := by decide +kernel
theorem dX10_span_35 : decode cX10_span 35 = .ok (.if_icmp .eq 5, 3) := by decide +kernel
theorem dX10_span_38 : decode cX10_span 38 = .ok (.iconst 1, 1) := by decide +kernel
theorem dX10_span_39 : decode cX10_span 39 = .ok (.ireturn, 1) := by decide +kernel
theorem dX10_span_40 : decode cX10_span 40 = .ok (.aload_n 0, 1) := by decide +kernel
theorem dX10_span_41 : decode cX10_span 41 = .ok (.invokevirtual 176, 3) := by decide +kernel
theorem dX10_span_44 : decode cX10_span 44 = .ok (.aload_n 0, 1) := by decide +kernel
theorem dX10_span_45 : decode cX10_span 45 = .ok (.getfield 160, 3) := by decide +kernel
theorem dX10_span_48 : decode cX10_span 48 = .ok (.iconst 1, 1) := by decide +kernel
theorem dX10_span_49 : decode cX10_span 49 = .ok (.if_icmp .eq 5, 3) := by decide +kernel
theorem dX10_span_52 : decode cX10_span 52 = .ok (.iconst 1, 1) := by decide +kernel
theorem dX10_span_53 : decode cX10_span 53 = .ok (.ireturn, 1) := by decide +kernel
theorem dX10_span_54 : decode cX10_span 54 = .ok (.aload_n 0, 1) := by decide +kernel
theorem dX10_span_55 : decode cX10_span 55 = .ok (.getfield 166, 3) := by decide +kernel
theorem dX10_span_58 : decode cX10_span 58 = .ok (.iload_n 2, 1) := by decide +kernel
theorem dX10_span_59 : decode cX10_span 59 = .ok (.if_icmp .gt 16, 3) := by decide +kernel
theorem dX10_span_62 : decode cX10_span 62 = .ok (.aload_n 0, 1) := by decide +kernel
theorem dX10_span_63 : decode cX10_span 63 = .ok (.getfield 166, 3) := by decide +kernel
theorem dX10_span_66 : decode cX10_span 66 = .ok (.iload 4, 2) := by decide +kernel
theorem dX10_span_68 : decode cX10_span 68 = .ok (.if_icmp .ge 9, 3) := by decide +kernel
theorem dX10_span_71 : decode cX10_span 71 = .ok (.iload_n 3, 1) := by decide +kernel
theorem dX10_span_72 : decode cX10_span 72 = .ok (.ifCond .ne 5, 3) := by decide +kernel
theorem dX10_span_75 : decode cX10_span 75 = .ok (.iconst 3, 1) := by decide +kernel
theorem dX10_span_76 : decode cX10_span 76 = .ok (.ireturn, 1) := by decide +kernel
theorem dX10_span_77 : decode cX10_span 77 = .ok (.aload_n 0, 1) := by decide +kernel
theorem dX10_span_78 : decode cX10_span 78 = .ok (.getfield 66, 3) := by decide +kernel
theorem dX10_span_81 : decode cX10_span 81 = .ok (.bipush 100, 2) := by decide +kernel
theorem dX10_span_83 : decode cX10_span 83 = .ok (.iload_n 1, 1) := by decide +kernel
theorem dX10_span_84 : decode cX10_span 84 = .ok (.iadd, 1) := by decide +kernel
theorem dX10_span_85 : decode cX10_span 85 = .ok (.iload 4, 2) := by decide +kernel
theorem dX10_span_87 : decode cX10_span 87 = .ok (.iastore, 1) := by decide +kernel
theorem dX10_span_88 : decode cX10_span 88 = .ok (.aload_n 0, 1) := by decide +kernel
theorem dX10_span_89 : decode cX10_span 89 = .ok (.getfield 66, 3) := by decide +kernel
theorem dX10_span_92 : decode cX10_span 92 = .ok (.bipush 101, 2) := by decide +kernel
theorem dX10_span_94 : decode cX10_span 94 = .ok (.iload_n 1, 1) := by decide +kernel
theorem dX10_span_95 : decode cX10_span 95 = .ok (.iadd, 1) := by decide +kernel
theorem dX10_span_96 : decode cX10_span 96 = .ok (.aload_n 0, 1) := by decide +kernel
theorem dX10_span_97 : decode cX10_span 97 = .ok (.getfield 166, 3) := by decide +kernel
theorem dX10_span_100 : decode cX10_span 100 = .ok (.iastore, 1) := by decide +kernel
theorem dX10_span_101 : decode cX10_span 101 = .ok (.aload_n 0, 1) := by decide +kernel
theorem dX10_span_102 : decode cX10_span 102 = .ok (.invokevirtual 176, 3) := by decide +kernel
theorem dX10_span_105 : decode cX10_span 105 = .ok (.iconst 0, 1) := by decide +kernel
theorem dX10_span_106 : decode cX10_span 106 = .ok (.ireturn, 1) := by decide +kernel
theorem dX10_clause_0 : decode cX10_clause 0 = .ok (.iload_n 1, 1) := by decide +kernel
theorem dX10_clause_1 : decode cX10_clause 1 = .ok (.iconst 5, 1) := by decide +kernel
theorem dX10_clause_2 : decode cX10_clause 2 = .ok (.if_icmp .ne 12, 3) := by decide +kernel
theorem dX10_clause_5 : decode cX10_clause 5 = .ok (.aload_n 0, 1) := by decide +kernel
theorem dX10_clause_6 : decode cX10_clause 6 = .ok (.iconst 0, 1) := by decide +kernel
theorem dX10_clause_7 : decode cX10_clause 7 = .ok (.bipush 15, 2) := by decide +kernel
theorem dX10_clause_9 : decode cX10_clause 9 = .ok (.iconst 0, 1) := by decide +kernel
theorem dX10_clause_10 : decode cX10_clause 10 = .ok (.invokevirtual 179, 3) := by decide +kernel
theorem dX10_clause_13 : decode cX10_clause 13 = .ok (.ireturn, 1) := by decide +kernel
theorem dX10_clause_14 : decode cX10_clause 14 = .ok (.iload_n 1, 1) := by decide +kernel
theorem dX10_clause_15 : decode cX10_clause 15 = .ok (.bipush 6, 2) := by decide +kernel
theorem dX10_clause_17 : decode cX10_clause 17 = .ok (.if_icmp .ne 13, 3) := by decide +kernel
theorem dX10_clause_20 : decode cX10_clause 20 = .ok (.aload_n 0, 1) := by decide +kernel
theorem dX10_clause_21 : decode cX10_clause 21 = .ok (.iconst 2, 1) := by decide +kernel
theorem dX10_clause_22 : decode cX10_clause 22 = .ok (.sipush 1439, 3) := by decide +kernel
theorem dX10_clause_25 : decode cX10_clause 25 = .ok (.iconst 1, 1) := by decide +kernel
theorem dX10_clause_26 : decode cX10_clause 26 = .ok (.invokevirtual 179, 3) := by decide +kernel
theorem dX10_clause_29 : decode cX10_clause 29 = .ok (.ireturn, 1) := by decide +kernel
theorem dX10_clause_30 : decode cX10_clause 30 = .ok (.iload_n 1, 1) := by decide +kernel
theorem dX10_clause_31 : decode cX10_clause 31 = .ok (.bipush 7, 2) := by decide +kernel
theorem dX10_clause_33 : decode cX10_clause 33 = .ok (.if_icmp .ne 13, 3) := by decide +kernel
theorem dX10_clause_36 : decode cX10_clause 36 = .ok (.aload_n 0, 1) := by decide +kernel
theorem dX10_clause_37 : decode cX10_clause 37 = .ok (.iconst 4, 1) := by decide +kernel
theorem dX10_clause_38 : decode cX10_clause 38 = .ok (.sipush 999, 3) := by decide +kernel
theorem dX10_clause_41 : decode cX10_clause 41 = .ok (.iconst 0, 1) := by decide +kernel
theorem dX10_clause_42 : decode cX10_clause 42 = .ok (.invokevirtual 179, 3) := by decide +kernel
theorem dX10_clause_45 : decode cX10_clause 45 = .ok (.ireturn, 1) := by decide +kernel
theorem dX10_clause_46 : decode cX10_clause 46 = .ok (.aload_n 0, 1) := by decide +kernel
theorem dX10_clause_47 : decode cX10_clause 47 = .ok (.bipush 6, 2) := by decide +kernel
theorem dX10_clause_49 : decode cX10_clause 49 = .ok (.bipush 31, 2) := by decide +kernel
theorem dX10_clause_51 : decode cX10_clause 51 = .ok (.iconst 0, 1) := by decide +kernel
theorem dX10_clause_52 : decode cX10_clause 52 = .ok (.invokevirtual 179, 3) := by decide +kernel
theorem dX10_clause_55 : decode cX10_clause 55 = .ok (.istore_n 2, 1) := by decide +kernel
theorem dX10_clause_56 : decode cX10_clause 56 = .ok (.iload_n 2, 1) := by decide +kernel
theorem dX10_clause_57 : decode cX10_clause 57 = .ok (.ifCond .eq 7, 3) := by decide +kernel
theorem dX10_clause_60 : decode cX10_clause 60 = .ok (.iload_n 2, 1) := by decide +kernel
theorem dX10_clause_61 : decode cX10_clause 61 = .ok (.goto 12, 3) := by decide +kernel
theorem dX10_clause_64 : decode cX10_clause 64 = .ok (.aload_n 0, 1) := by decide +kernel
theorem dX10_clause_65 : decode cX10_clause 65 = .ok (.bipush 8, 2) := by decide +kernel
theorem dX10_clause_67 : decode cX10_clause 67 = .ok (.bipush 31, 2) := by decide +kernel
theorem dX10_clause_69 : decode cX10_clause 69 = .ok (.iconst 0, 1) := by decide +kernel
theorem dX10_clause_70 : decode cX10_clause 70 = .ok (.invokevirtual 179, 3) := by decide +kernel
theorem dX10_clause_73 : decode cX10_clause 73 = .ok (.ireturn, 1) := by decide +kernel
theorem dX10_read_0 : decode cX10_read 0 = .ok (.iconst 0, 1) := by decide +kernel
theorem dX10_read_1 : decode cX10_read 1 = .ok (.istore_n 1, 1) := by decide +kernel
theorem dX10_read_2 : decode cX10_read 2 = .ok (.iconst 0, 1) := by decide +kernel
theorem dX10_read_3 : decode cX10_read 3 = .ok (.istore_n 2, 1) := by decide +kernel
theorem dX10_read_4 : decode cX10_read 4 = .ok (.iload_n 2, 1) := by decide +kernel
theorem dX10_read_5 : decode cX10_read 5 = .ok (.bipush 10, 2) := by decide +kernel
theorem dX10_read_7 : decode cX10_read 7 = .ok (.if_icmp .ge 62, 3) := by decide +kernel
theorem dX10_read_10 : decode cX10_read 10 = .ok (.aload_n 0, 1) := by decide +kernel
theorem dX10_read_11 : decode cX10_read 11 = .ok (.getfield 66, 3) := by decide +kernel
theorem dX10_read_14 : decode cX10_read 14 = .ok (.bipush 100, 2) := by decide +kernel
theorem dX10_read_16 : decode cX10_read 16 = .ok (.iload_n 2, 1) := by decide +kernel
theorem dX10_read_17 : decode cX10_read 17 = .ok (.iadd, 1) := by decide +kernel
theorem dX10_read_18 : decode cX10_read 18 = .ok (.iload_n 2, 1) := by decide +kernel
theorem dX10_read_19 : decode cX10_read 19 = .ok (.iconst 2, 1) := by decide +kernel
theorem dX10_read_20 : decode cX10_read 20 = .ok (.irem, 1) := by decide +kernel
theorem dX10_read_21 : decode cX10_read 21 = .ok (.ifCond .ne 7, 3) := by decide +kernel
theorem dX10_read_24 : decode cX10_read 24 = .ok (.iconst 0, 1) := by decide +kernel
theorem dX10_read_25 : decode cX10_read 25 = .ok (.goto 37, 3) := by decide +kernel
theorem dX10_read_28 : decode cX10_read 28 = .ok (.iload_n 2, 1) := by decide +kernel
theorem dX10_read_29 : decode cX10_read 29 = .ok (.iconst 1, 1) := by decide +kernel
theorem dX10_read_30 : decode cX10_read 30 = .ok (.if_icmp .ne 8, 3) := by decide +kernel
theorem dX10_read_33 : decode cX10_read 33 = .ok (.bipush 15, 2) := by decide +kernel
theorem dX10_read_35 : decode cX10_read 35 = .ok (.goto 27, 3) := by decide +kernel
theorem dX10_read_38 : decode cX10_read 38 = .ok (.iload_n 2, 1) := by decide +kernel
theorem dX10_read_39 : decode cX10_read 39 = .ok (.iconst 3, 1) := by decide +kernel
theorem dX10_read_40 : decode cX10_read 40 = .ok (.if_icmp .ne 9, 3) := by decide +kernel
theorem dX10_read_43 : decode cX10_read 43 = .ok (.sipush 1439, 3) := by decide +kernel
theorem dX10_read_46 : decode cX10_read 46 = .ok (.goto 16, 3) := by decide +kernel
theorem dX10_read_49 : decode cX10_read 49 = .ok (.iload_n 2, 1) := by decide +kernel
theorem dX10_read_50 : decode cX10_read 50 = .ok (.iconst 5, 1) := by decide +kernel
theorem dX10_read_51 : decode cX10_read 51 = .ok (.if_icmp .ne 9, 3) := by decide +kernel
theorem dX10_read_54 : decode cX10_read 54 = .ok (.sipush 999, 3) := by decide +kernel
theorem dX10_read_57 : decode cX10_read 57 = .ok (.goto 5, 3) := by decide +kernel
theorem dX10_read_60 : decode cX10_read 60 = .ok (.bipush 31, 2) := by decide +kernel
theorem dX10_read_62 : decode cX10_read 62 = .ok (.iastore, 1) := by decide +kernel
theorem dX10_read_63 : decode cX10_read 63 = .ok (.iinc 2 1, 3) := by decide +kernel
theorem dX10_read_66 : decode cX10_read 66 = .ok (.goto (-62), 3) := by decide +kernel
theorem dX10_read_69 : decode cX10_read 69 = .ok (.aload_n 0, 1) := by decide +kernel
theorem dX10_read_70 : decode cX10_read 70 = .ok (.iconst 0, 1) := by decide +kernel
theorem dX10_read_71 : decode cX10_read 71 = .ok (.putfield 150, 3) := by decide +kernel
theorem dX10_read_74 : decode cX10_read 74 = .ok (.aload_n 0, 1) := by decide +kernel
theorem dX10_read_75 : decode cX10_read 75 = .ok (.invokevirtual 176, 3) := by decide +kernel
theorem dX10_read_78 : decode cX10_read 78 = .ok (.aload_n 0, 1) := by decide +kernel
theorem dX10_read_79 : decode cX10_read 79 = .ok (.getfield 160, 3) := by decide +kernel
theorem dX10_read_82 : decode cX10_read 82 = .ok (.ifCond .eq 65, 3) := by decide +kernel
theorem dX10_read_85 : decode cX10_read 85 = .ok (.aload_n 0, 1) := by decide +kernel
theorem dX10_read_86 : decode cX10_read 86 = .ok (.getfield 160, 3) := by decide +kernel
theorem dX10_read_89 : decode cX10_read 89 = .ok (.istore_n 2, 1) := by decide +kernel
theorem dX10_read_90 : decode cX10_read 90 = .ok (.iload_n 2, 1) := by decide +kernel
theorem dX10_read_91 : decode cX10_read 91 = .ok (.iconst 5, 1) := by decide +kernel
theorem dX10_read_92 : decode cX10_read 92 = .ok (.if_icmp .ge 5, 3) := by decide +kernel
theorem dX10_read_95 : decode cX10_read 95 = .ok (.iconst 1, 1) := by decide +kernel
theorem dX10_read_96 : decode cX10_read 96 = .ok (.ireturn, 1) := by decide +kernel
theorem dX10_read_97 : decode cX10_read 97 = .ok (.iload_n 1, 1) := by decide +kernel
theorem dX10_read_98 : decode cX10_read 98 = .ok (.iload_n 2, 1) := by decide +kernel
theorem dX10_read_99 : decode cX10_read 99 = .ok (.ishr, 1) := by decide +kernel
theorem dX10_read_100 : decode cX10_read 100 = .ok (.iconst 1, 1) := by decide +kernel
theorem dX10_read_101 : decode cX10_read 101 = .ok (.iand, 1) := by decide +kernel
theorem dX10_read_102 : decode cX10_read 102 = .ok (.iconst 1, 1) := by decide +kernel
theorem dX10_read_103 : decode cX10_read 103 = .ok (.if_icmp .ne 5, 3) := by decide +kernel
theorem dX10_read_106 : decode cX10_read 106 = .ok (.iconst 2, 1) := by decide +kernel
theorem dX10_read_107 : decode cX10_read 107 = .ok (.ireturn, 1) := by decide +kernel
theorem dX10_read_108 : decode cX10_read 108 = .ok (.iload_n 1, 1) := by decide +kernel
theorem dX10_read_109 : decode cX10_read 109 = .ok (.iconst 1, 1) := by decide +kernel
theorem dX10_read_110 : decode cX10_read 110 = .ok (.iload_n 2, 1) := by decide +kernel
theorem dX10_read_111 : decode cX10_read 111 = .ok (.ishl, 1) := by decide +kernel
theorem dX10_read_112 : decode cX10_read 112 = .ok (.ior, 1) := by decide +kernel
theorem dX10_read_113 : decode cX10_read 113 = .ok (.istore_n 1, 1) := by decide +kernel
theorem dX10_read_114 : decode cX10_read 114 = .ok (.aload_n 0, 1) := by decide +kernel
theorem dX10_read_115 : decode cX10_read 115 = .ok (.invokevirtual 176, 3) := by decide +kernel
theorem dX10_read_118 : decode cX10_read 118 = .ok (.aload_n 0, 1) := by decide +kernel
theorem dX10_read_119 : decode cX10_read 119 = .ok (.iload_n 2, 1) := by decide +kernel
theorem dX10_read_120 : decode cX10_read 120 = .ok (.invokevirtual 183, 3) := by decide +kernel
theorem dX10_read_123 : decode cX10_read 123 = .ok (.istore_n 3, 1) := by decide +kernel
theorem dX10_read_124 : decode cX10_read 124 = .ok (.iload_n 3, 1) := by decide +kernel
theorem dX10_read_125 : decode cX10_read 125 = .ok (.ifCond .eq 5, 3) := by decide +kernel
theorem dX10_read_128 : decode cX10_read 128 = .ok (.iload_n 3, 1) := by decide +kernel
theorem dX10_read_129 : decode cX10_read 129 = .ok (.ireturn, 1) := by decide +kernel
theorem dX10_read_130 : decode cX10_read 130 = .ok (.aload_n 0, 1) := by decide +kernel
theorem dX10_read_131 : decode cX10_read 131 = .ok (.getfield 160, 3) := by decide +kernel
theorem dX10_read_134 : decode cX10_read 134 = .ok (.iconst 2, 1) := by decide +kernel
theorem dX10_read_135 : decode cX10_read 135 = .ok (.if_icmp .eq 5, 3) := by decide +kernel
theorem dX10_read_138 : decode cX10_read 138 = .ok (.iconst 1, 1) := by decide +kernel
theorem dX10_read_139 : decode cX10_read 139 = .ok (.ireturn, 1) := by decide +kernel
theorem dX10_read_140 : decode cX10_read 140 = .ok (.aload_n 0, 1) := by decide +kernel
theorem dX10_read_141 : decode cX10_read 141 = .ok (.invokevirtual 176, 3) := by decide +kernel
theorem dX10_read_144 : decode cX10_read 144 = .ok (.goto (-66), 3) := by decide +kernel
theorem dX10_read_147 : decode cX10_read 147 = .ok (.iconst 0, 1) := by decide +kernel
theorem dX10_read_148 : decode cX10_read 148 = .ok (.ireturn, 1) := by decide +kernel
theorem dX10_licence_0 : decode cX10_licence 0 = .ok (.aload_n 0, 1) := by decide +kernel
theorem dX10_licence_1 : decode cX10_licence 1 = .ok (.getfield 186, 3) := by decide +kernel
theorem dX10_licence_4 : decode cX10_licence 4 = .ok (.bipush 10, 2) := by decide +kernel
theorem dX10_licence_6 : decode cX10_licence 6 = .ok (.if_icmp .ne 5, 3) := by decide +kernel
theorem dX10_licence_9 : decode cX10_licence 9 = .ok (.iconst (-1), 1) := by decide +kernel
theorem dX10_licence_10 : decode cX10_licence 10 = .ok (.ireturn, 1) := by decide +kernel
theorem dX10_licence_11 : decode cX10_licence 11 = .ok (.aload_n 0, 1) := by decide +kernel
theorem dX10_licence_12 : decode cX10_licence 12 = .ok (.aload_n 0, 1) := by decide +kernel
theorem dX10_licence_13 : decode cX10_licence 13 = .ok (.invokevirtual 189, 3) := by decide +kernel
theorem dX10_licence_16 : decode cX10_licence 16 = .ok (.putfield 69, 3) := by decide +kernel
theorem dX10_licence_19 : decode cX10_licence 19 = .ok (.aload_n 0, 1) := by decide +kernel
theorem dX10_licence_20 : decode cX10_licence 20 = .ok (.aload_n 0, 1) := by decide +kernel
theorem dX10_licence_21 : decode cX10_licence 21 = .ok (.getfield 69, 3) := by decide +kernel
theorem dX10_licence_24 : decode cX10_licence 24 = .ok (.ifCond .ne 7, 3) := by decide +kernel
theorem dX10_licence_27 : decode cX10_licence 27 = .ok (.iconst (-1), 1) := by decide +kernel
theorem dX10_licence_28 : decode cX10_licence 28 = .ok (.goto 7, 3) := by decide +kernel
theorem dX10_licence_31 : decode cX10_licence 31 = .ok (.aload_n 0, 1) := by decide +kernel
theorem dX10_licence_32 : decode cX10_licence 32 = .ok (.getfield 157, 3) := by decide +kernel
theorem dX10_licence_35 : decode cX10_licence 35 = .ok (.putfield 72, 3) := by decide +kernel
theorem dX10_licence_38 : decode cX10_licence 38 = .ok (.aload_n 0, 1) := by decide +kernel
theorem dX10_licence_39 : decode cX10_licence 39 = .ok (.iconst 0, 1) := by decide +kernel
theorem dX10_licence_40 : decode cX10_licence 40 = .ok (.putfield 139, 3) := by decide +kernel
theorem dX10_licence_43 : decode cX10_licence 43 = .ok (.aload_n 0, 1) := by decide +kernel
theorem dX10_licence_44 : decode cX10_licence 44 = .ok (.getfield 69, 3) := by decide +kernel
theorem dX10_licence_47 : decode cX10_licence 47 = .ok (.ifCond .eq 5, 3) := by decide +kernel
theorem dX10_licence_50 : decode cX10_licence 50 = .ok (.iconst (-1), 1) := by decide +kernel
theorem dX10_licence_51 : decode cX10_licence 51 = .ok (.ireturn, 1) := by decide +kernel
theorem dX10_licence_52 : decode cX10_licence 52 = .ok (.iconst 0, 1) := by decide +kernel
theorem dX10_licence_53 : decode cX10_licence 53 = .ok (.istore_n 1, 1) := by decide +kernel
theorem dX10_licence_54 : decode cX10_licence 54 = .ok (.iload_n 1, 1) := by decide +kernel
theorem dX10_licence_55 : decode cX10_licence 55 = .ok (.bipush 10, 2) := by decide +kernel
theorem dX10_licence_57 : decode cX10_licence 57 = .ok (.if_icmp .ge 32, 3) := by decide +kernel
theorem dX10_licence_60 : decode cX10_licence 60 = .ok (.aload_n 0, 1) := by decide +kernel
theorem dX10_licence_61 : decode cX10_licence 61 = .ok (.getfield 66, 3) := by decide +kernel
theorem dX10_licence_64 : decode cX10_licence 64 = .ok (.bipush 10, 2) := by decide +kernel
theorem dX10_licence_66 : decode cX10_licence 66 = .ok (.aload_n 0, 1) := by decide +kernel
theorem dX10_licence_67 : decode cX10_licence 67 = .ok (.getfield 186, 3) := by decide +kernel
theorem dX10_licence_70 : decode cX10_licence 70 = .ok (.imul, 1) := by decide +kernel
theorem dX10_licence_71 : decode cX10_licence 71 = .ok (.iload_n 1, 1) := by decide +kernel
theorem dX10_licence_72 : decode cX10_licence 72 = .ok (.iadd, 1) := by decide +kernel
theorem dX10_licence_73 : decode cX10_licence 73 = .ok (.aload_n 0, 1) := by decide +kernel
theorem dX10_licence_74 : decode cX10_licence 74 = .ok (.getfield 66, 3) := by decide +kernel
theorem dX10_licence_77 : decode cX10_licence 77 = .ok (.bipush 100, 2) := by decide +kernel
theorem dX10_licence_79 : decode cX10_licence 79 = .ok (.iload_n 1, 1) := by decide +kernel
theorem dX10_licence_80 : decode cX10_licence 80 = .ok (.iadd, 1) := by decide +kernel
theorem dX10_licence_81 : decode cX10_licence 81 = .ok (.iaload, 1) := by decide +kernel
theorem dX10_licence_82 : decode cX10_licence 82 = .ok (.iastore, 1) := by decide +kernel
theorem dX10_licence_83 : decode cX10_licence 83 = .ok (.iinc 1 1, 3) := by decide +kernel
theorem dX10_licence_86 : decode cX10_licence 86 = .ok (.goto (-32), 3) := by decide +kernel
theorem dX10_licence_89 : decode cX10_licence 89 = .ok (.aload_n 0, 1) := by decide +kernel
theorem dX10_licence_90 : decode cX10_licence 90 = .ok (.dup, 1) := by decide +kernel
theorem dX10_licence_91 : decode cX10_licence 91 = .ok (.getfield 186, 3) := by decide +kernel
theorem dX10_licence_94 : decode cX10_licence 94 = .ok (.iconst 1, 1) := by decide +kernel
theorem dX10_licence_95 : decode cX10_licence 95 = .ok (.iadd, 1) := by decide +kernel
theorem dX10_licence_96 : decode cX10_licence 96 = .ok (.putfield 186, 3) := by decide +kernel
theorem dX10_licence_99 : decode cX10_licence 99 = .ok (.aload_n 0, 1) := by decide +kernel
theorem dX10_licence_100 : decode cX10_licence 100 = .ok (.getfield 186, 3) := by decide +kernel
theorem dX10_licence_103 : decode cX10_licence 103 = .ok (.iconst 1, 1) := by decide +kernel
theorem dX10_licence_104 : decode cX10_licence 104 = .ok (.isub, 1) := by decide +kernel
theorem dX10_licence_105 : decode cX10_licence 105 = .ok (.ireturn, 1) := by decide +kernel
theorem dX10_fault_0 : decode cX10_fault 0 = .ok (.iload_n 1, 1) := by decide +kernel
theorem dX10_fault_1 : decode cX10_fault 1 = .ok (.ifCond .ne 10, 3) := by decide +kernel
theorem dX10_fault_4 : decode cX10_fault 4 = .ok (.aload_n 0, 1) := by decide +kernel
theorem dX10_fault_5 : decode cX10_fault 5 = .ok (.getfield 69, 3) := by decide +kernel
theorem dX10_fault_8 : decode cX10_fault 8 = .ok (.goto 16, 3) := by decide +kernel
theorem dX10_fault_11 : decode cX10_fault 11 = .ok (.iload_n 1, 1) := by decide +kernel
theorem dX10_fault_12 : decode cX10_fault 12 = .ok (.iconst 1, 1) := by decide +kernel
theorem dX10_fault_13 : decode cX10_fault 13 = .ok (.if_icmp .ne 10, 3) := by decide +kernel
theorem dX10_fault_16 : decode cX10_fault 16 = .ok (.aload_n 0, 1) := by decide +kernel
theorem dX10_fault_17 : decode cX10_fault 17 = .ok (.getfield 72, 3) := by decide +kernel
theorem dX10_fault_20 : decode cX10_fault 20 = .ok (.goto 4, 3) := by decide +kernel
theorem dX10_fault_23 : decode cX10_fault 23 = .ok (.iconst (-1), 1) := by decide +kernel
theorem dX10_fault_24 : decode cX10_fault 24 = .ok (.ireturn, 1) := by decide +kernel
theorem dX10_isTime_0 : decode cX10_isTime 0 = .ok (.aload_n 0, 1) := by decide +kernel
theorem dX10_isTime_1 : decode cX10_isTime 1 = .ok (.getfield 66, 3) := by decide +kernel
theorem dX10_isTime_4 : decode cX10_isTime 4 = .ok (.bipush 10, 2) := by decide +kernel
theorem dX10_isTime_6 : decode cX10_isTime 6 = .ok (.iload_n 1, 1) := by decide +kernel
theorem dX10_isTime_7 : decode cX10_isTime 7 = .ok (.imul, 1) := by decide +kernel
theorem dX10_isTime_8 : decode cX10_isTime 8 = .ok (.iconst 2, 1) := by decide +kernel
theorem dX10_isTime_9 : decode cX10_isTime 9 = .ok (.iadd, 1) := by decide +kernel
theorem dX10_isTime_10 : decode cX10_isTime 10 = .ok (.iaload, 1) := by decide +kernel
theorem dX10_isTime_11 : decode cX10_isTime 11 = .ok (.istore_n 3, 1) := by decide +kernel
theorem dX10_isTime_12 : decode cX10_isTime 12 = .ok (.aload_n 0, 1) := by decide +kernel
theorem dX10_isTime_13 : decode cX10_isTime 13 = .ok (.getfield 66, 3) := by decide +kernel
theorem dX10_isTime_16 : decode cX10_isTime 16 = .ok (.bipush 10, 2) := by decide +kernel
theorem dX10_isTime_18 : decode cX10_isTime 18 = .ok (.iload_n 1, 1) := by decide +kernel
theorem dX10_isTime_19 : decode cX10_isTime 19 = .ok (.imul, 1) := by decide +kernel
theorem dX10_isTime_20 : decode cX10_isTime 20 = .ok (.iconst 3, 1) := by decide +kernel
theorem dX10_isTime_21 : decode cX10_isTime 21 = .ok (.iadd, 1) := by decide +kernel
theorem dX10_isTime_22 : decode cX10_isTime 22 = .ok (.iaload, 1) := by decide +kernel
theorem dX10_isTime_23 : decode cX10_isTime 23 = .ok (.istore 4, 2) := by decide +kernel
theorem dX10_isTime_25 : decode cX10_isTime 25 = .ok (.iload_n 2, 1) := by decide +kernel
theorem dX10_isTime_26 : decode cX10_isTime 26 = .ok (.sipush 1440, 3) := by decide +kernel
theorem dX10_isTime_29 : decode cX10_isTime 29 = .ok (.irem, 1) := by decide +kernel
theorem dX10_isTime_30 : decode cX10_isTime 30 = .ok (.istore 5, 2) := by decide +kernel
theorem dX10_isTime_32 : decode cX10_isTime 32 = .ok (.iload_n 3, 1) := by decide +kernel
theorem dX10_isTime_33 : decode cX10_isTime 33 = .ok (.iload 4, 2) := by decide +kernel
theorem dX10_isTime_35 : decode cX10_isTime 35 = .ok (.if_icmp .gt 14, 3) := by decide +kernel
theorem dX10_isTime_38 : decode cX10_isTime 38 = .ok (.iload 5, 2) := by decide +kernel
theorem dX10_isTime_40 : decode cX10_isTime 40 = .ok (.iload_n 3, 1) := by decide +kernel
theorem dX10_isTime_41 : decode cX10_isTime 41 = .ok (.iload 4, 2) := by decide +kernel
theorem dX10_isTime_43 : decode cX10_isTime 43 = .ok (.invokestatic 87, 3) := by decide +kernel
theorem dX10_isTime_46 : decode cX10_isTime 46 = .ok (.goto 21, 3) := by decide +kernel
theorem dX10_isTime_49 : decode cX10_isTime 49 = .ok (.iload 5, 2) := by decide +kernel
theorem dX10_isTime_51 : decode cX10_isTime 51 = .ok (.iload_n 3, 1) := by decide +kernel
theorem dX10_isTime_52 : decode cX10_isTime 52 = .ok (.if_icmp .ge 10, 3) := by decide +kernel
theorem dX10_isTime_55 : decode cX10_isTime 55 = .ok (.iload 5, 2) := by decide +kernel
theorem dX10_isTime_57 : decode cX10_isTime 57 = .ok (.iload 4, 2) := by decide +kernel
theorem dX10_isTime_59 : decode cX10_isTime 59 = .ok (.if_icmp .gt 7, 3) := by decide +kernel
theorem dX10_isTime_62 : decode cX10_isTime 62 = .ok (.iconst 1, 1) := by decide +kernel
theorem dX10_isTime_63 : decode cX10_isTime 63 = .ok (.goto 4, 3) := by decide +kernel
theorem dX10_isTime_66 : decode cX10_isTime 66 = .ok (.iconst 0, 1) := by decide +kernel
theorem dX10_isTime_67 : decode cX10_isTime 67 = .ok (.ireturn, 1) := by decide +kernel
theorem dX10_answer_0 : decode cX10_answer 0 = .ok (.bipush 10, 2) := by decide +kernel
theorem dX10_answer_2 : decode cX10_answer 2 = .ok (.iload_n 2, 1) := by decide +kernel
theorem dX10_answer_3 : decode cX10_answer 3 = .ok (.imul, 1) := by decide +kernel
theorem dX10_answer_4 : decode cX10_answer 4 = .ok (.istore_n 3, 1) := by decide +kernel
theorem dX10_answer_5 : decode cX10_answer 5 = .ok (.aload_n 0, 1) := by decide +kernel
theorem dX10_answer_6 : decode cX10_answer 6 = .ok (.getfield 31, 3) := by decide +kernel
theorem dX10_answer_9 : decode cX10_answer 9 = .ok (.aload_n 0, 1) := by decide +kernel
theorem dX10_answer_10 : decode cX10_answer 10 = .ok (.getfield 60, 3) := by decide +kernel
theorem dX10_answer_13 : decode cX10_answer 13 = .ok (.iload_n 1, 1) := by decide +kernel
theorem dX10_answer_14 : decode cX10_answer 14 = .ok (.iaload, 1) := by decide +kernel
theorem dX10_answer_15 : decode cX10_answer 15 = .ok (.iaload, 1) := by decide +kernel
theorem dX10_answer_16 : decode cX10_answer 16 = .ok (.aload_n 0, 1) := by decide +kernel
theorem dX10_answer_17 : decode cX10_answer 17 = .ok (.getfield 66, 3) := by decide +kernel
theorem dX10_answer_20 : decode cX10_answer 20 = .ok (.iload_n 3, 1) := by decide +kernel
theorem dX10_answer_21 : decode cX10_answer 21 = .ok (.iaload, 1) := by decide +kernel
theorem dX10_answer_22 : decode cX10_answer 22 = .ok (.aload_n 0, 1) := by decide +kernel
theorem dX10_answer_23 : decode cX10_answer 23 = .ok (.getfield 66, 3) := by decide +kernel
theorem dX10_answer_26 : decode cX10_answer 26 = .ok (.iload_n 3, 1) := by decide +kernel
theorem dX10_answer_27 : decode cX10_answer 27 = .ok (.iconst 1, 1) := by decide +kernel
theorem dX10_answer_28 : decode cX10_answer 28 = .ok (.iadd, 1) := by decide +kernel
theorem dX10_answer_29 : decode cX10_answer 29 = .ok (.iaload, 1) := by decide +kernel
theorem dX10_answer_30 : decode cX10_answer 30 = .ok (.invokestatic 87, 3) := by decide +kernel
theorem dX10_answer_33 : decode cX10_answer 33 = .ok (.ifCond .ne 5, 3) := by decide +kernel
theorem dX10_answer_36 : decode cX10_answer 36 = .ok (.iconst 1, 1) := by decide +kernel
theorem dX10_answer_37 : decode cX10_answer 37 = .ok (.ireturn, 1) := by decide +kernel
theorem dX10_answer_38 : decode cX10_answer 38 = .ok (.iconst 1, 1) := by decide +kernel
theorem dX10_answer_39 : decode cX10_answer 39 = .ok (.istore 4, 2) := by decide +kernel
theorem dX10_answer_41 : decode cX10_answer 41 = .ok (.iconst 0, 1) := by decide +kernel
theorem dX10_answer_42 : decode cX10_answer 42 = .ok (.istore 5, 2) := by decide +kernel
theorem dX10_answer_44 : decode cX10_answer 44 = .ok (.iload 5, 2) := by decide +kernel
theorem dX10_answer_46 : decode cX10_answer 46 = .ok (.aload_n 0, 1) := by decide +kernel
theorem dX10_answer_47 : decode cX10_answer 47 = .ok (.getfield 105, 3) := by decide +kernel
theorem dX10_answer_50 : decode cX10_answer 50 = .ok (.if_icmp .ge 95, 3) := by decide +kernel
theorem dX10_answer_53 : decode cX10_answer 53 = .ok (.aload_n 0, 1) := by decide +kernel
theorem dX10_answer_54 : decode cX10_answer 54 = .ok (.getfield 57, 3) := by decide +kernel
theorem dX10_answer_57 : decode cX10_answer 57 = .ok (.iload 5, 2) := by decide +kernel
theorem dX10_answer_59 : decode cX10_answer 59 = .ok (.iaload, 1) := by decide +kernel
theorem dX10_answer_60 : decode cX10_answer 60 = .ok (.iload_n 1, 1) := by decide +kernel
theorem dX10_answer_61 : decode cX10_answer 61 = .ok (.if_icmp .eq 6, 3) := by decide +kernel
theorem dX10_answer_64 : decode cX10_answer 64 = .ok (.goto 75, 3) := by decide +kernel
theorem dX10_answer_67 : decode cX10_answer 67 = .ok (.aload_n 0, 1) := by decide +kernel
theorem dX10_answer_68 : decode cX10_answer 68 = .ok (.getfield 40, 3) := by decide +kernel
theorem dX10_answer_71 : decode cX10_answer 71 = .ok (.iload 5, 2) := by decide +kernel
theorem dX10_answer_73 : decode cX10_answer 73 = .ok (.iaload, 1) := by decide +kernel
theorem dX10_answer_74 : decode cX10_answer 74 = .ok (.aload_n 0, 1) := by decide +kernel
theorem dX10_answer_75 : decode cX10_answer 75 = .ok (.getfield 66, 3) := by decide +kernel
theorem dX10_answer_78 : decode cX10_answer 78 = .ok (.iload_n 3, 1) := by decide +kernel
theorem dX10_answer_79 : decode cX10_answer 79 = .ok (.iconst 4, 1) := by decide +kernel
theorem dX10_answer_80 : decode cX10_answer 80 = .ok (.iadd, 1) := by decide +kernel
theorem dX10_answer_81 : decode cX10_answer 81 = .ok (.iaload, 1) := by decide +kernel
theorem dX10_answer_82 : decode cX10_answer 82 = .ok (.aload_n 0, 1) := by decide +kernel
theorem dX10_answer_83 : decode cX10_answer 83 = .ok (.getfield 66, 3) := by decide +kernel
theorem dX10_answer_86 : decode cX10_answer 86 = .ok (.iload_n 3, 1) := by decide +kernel
theorem dX10_answer_87 : decode cX10_answer 87 = .ok (.iconst 5, 1) := by decide +kernel
theorem dX10_answer_88 : decode cX10_answer 88 = .ok (.iadd, 1) := by decide +kernel
theorem dX10_answer_89 : decode cX10_answer 89 = .ok (.iaload, 1) := by decide +kernel
theorem dX10_answer_90 : decode cX10_answer 90 = .ok (.invokestatic 87, 3) := by decide +kernel
theorem dX10_answer_93 : decode cX10_answer 93 = .ok (.ifCond .ne 5, 3) := by decide +kernel
theorem dX10_answer_96 : decode cX10_answer 96 = .ok (.iconst 2, 1) := by decide +kernel
theorem dX10_answer_97 : decode cX10_answer 97 = .ok (.ireturn, 1) := by decide +kernel
theorem dX10_answer_98 : decode cX10_answer 98 = .ok (.aload_n 0, 1) := by decide +kernel
theorem dX10_answer_99 : decode cX10_answer 99 = .ok (.getfield 34, 3) := by decide +kernel
theorem dX10_answer_102 : decode cX10_answer 102 = .ok (.iload 5, 2) := by decide +kernel
theorem dX10_answer_104 : decode cX10_answer 104 = .ok (.iaload, 1) := by decide +kernel
theorem dX10_answer_105 : decode cX10_answer 105 = .ok (.istore 6, 2) := by decide +kernel
theorem dX10_answer_107 : decode cX10_answer 107 = .ok (.iload 6, 2) := by decide +kernel
theorem dX10_answer_109 : decode cX10_answer 109 = .ok (.aload_n 0, 1) := by decide +kernel
theorem dX10_answer_110 : decode cX10_answer 110 = .ok (.getfield 37, 3) := by decide +kernel
theorem dX10_answer_113 : decode cX10_answer 113 = .ok (.iload 5, 2) := by decide +kernel
theorem dX10_answer_115 : decode cX10_answer 115 = .ok (.iaload, 1) := by decide +kernel
theorem dX10_answer_116 : decode cX10_answer 116 = .ok (.if_icmp .gt 23, 3) := by decide +kernel
theorem dX10_answer_119 : decode cX10_answer 119 = .ok (.iload 4, 2) := by decide +kernel
theorem dX10_answer_121 : decode cX10_answer 121 = .ok (.ifCond .eq 18, 3) := by decide +kernel
theorem dX10_answer_124 : decode cX10_answer 124 = .ok (.aload_n 0, 1) := by decide +kernel
theorem dX10_answer_125 : decode cX10_answer 125 = .ok (.iload_n 2, 1) := by decide +kernel
theorem dX10_answer_126 : decode cX10_answer 126 = .ok (.iload 6, 2) := by decide +kernel
theorem dX10_answer_128 : decode cX10_answer 128 = .ok (.invokevirtual 193, 3) := by decide +kernel
theorem dX10_answer_131 : decode cX10_answer 131 = .ok (.istore 4, 2) := by decide +kernel
theorem dX10_answer_133 : decode cX10_answer 133 = .ok (.iinc 6 1, 3) := by decide +kernel
theorem dX10_answer_136 : decode cX10_answer 136 = .ok (.goto (-29), 3) := by decide +kernel
theorem dX10_answer_139 : decode cX10_answer 139 = .ok (.iinc 5 1, 3) := by decide +kernel
theorem dX10_answer_142 : decode cX10_answer 142 = .ok (.goto (-98), 3) := by decide +kernel
theorem dX10_answer_145 : decode cX10_answer 145 = .ok (.iload 4, 2) := by decide +kernel
theorem dX10_answer_147 : decode cX10_answer 147 = .ok (.ifCond .ne 5, 3) := by decide +kernel
theorem dX10_answer_150 : decode cX10_answer 150 = .ok (.iconst 3, 1) := by decide +kernel
theorem dX10_answer_151 : decode cX10_answer 151 = .ok (.ireturn, 1) := by decide +kernel
theorem dX10_answer_152 : decode cX10_answer 152 = .ok (.iconst 0, 1) := by decide +kernel
theorem dX10_answer_153 : decode cX10_answer 153 = .ok (.istore 5, 2) := by decide +kernel
theorem dX10_answer_155 : decode cX10_answer 155 = .ok (.iconst 1, 1) := by decide +kernel
theorem dX10_answer_156 : decode cX10_answer 156 = .ok (.istore 6, 2) := by decide +kernel
theorem dX10_answer_158 : decode cX10_answer 158 = .ok (.iconst 0, 1) := by decide +kernel
theorem dX10_answer_159 : decode cX10_answer 159 = .ok (.istore 7, 2) := by decide +kernel
theorem dX10_answer_161 : decode cX10_answer 161 = .ok (.iload 7, 2) := by decide +kernel
theorem dX10_answer_163 : decode cX10_answer 163 = .ok (.sipush 1024, 3) := by decide +kernel
theorem dX10_answer_166 : decode cX10_answer 166 = .ok (.if_icmp .ge 121, 3) := by decide +kernel
theorem dX10_answer_169 : decode cX10_answer 169 = .ok (.aload_n 0, 1) := by decide +kernel
theorem dX10_answer_170 : decode cX10_answer 170 = .ok (.iload_n 1, 1) := by decide +kernel
