theorem dX9_init_0 : decode cX9_init 0 = .ok (.aload_n 0, 1) := by decide +kernel
theorem dX9_init_1 : decode cX9_init 1 = .ok (.invokespecial 1, 3) := by decide +kernel
theorem dX9_init_4 : decode cX9_init 4 = .ok (.aload_n 0, 1) := by decide +kernel
theorem dX9_init_5 : decode cX9_init 5 = .ok (.new 7, 3) := by decide +kernel
theorem dX9_init_8 : decode cX9_init 8 = .ok (.dup, 1) := by decide +kernel
theorem dX9_init_9 : decode cX9_init 9 = .ok (.invokespecial 9, 3) := by decide +kernel
theorem dX9_init_12 : decode cX9_init 12 = .ok (.putfield 10, 3) := by decide +kernel
theorem dX9_init_15 : decode cX9_init 15 = .ok (.aload_n 0, 1) := by decide +kernel
theorem dX9_init_16 : decode cX9_init 16 = .ok (.new 16, 3) := by decide +kernel
theorem dX9_init_19 : decode cX9_init 19 = .ok (.dup, 1) := by decide +kernel
theorem dX9_init_20 : decode cX9_init 20 = .ok (.bipush 100, 2) := by decide +kernel
theorem dX9_init_22 : decode cX9_init 22 = .ok (.invokespecial 18, 3) := by decide +kernel
theorem dX9_init_25 : decode cX9_init 25 = .ok (.putfield 21, 3) := by decide +kernel
theorem dX9_init_28 : decode cX9_init 28 = .ok (.aload_n 0, 1) := by decide +kernel
theorem dX9_init_29 : decode cX9_init 29 = .ok (.new 25, 3) := by decide +kernel
theorem dX9_init_32 : decode cX9_init 32 = .ok (.dup, 1) := by decide +kernel
theorem dX9_init_33 : decode cX9_init 33 = .ok (.invokespecial 27, 3) := by decide +kernel
theorem dX9_init_36 : decode cX9_init 36 = .ok (.putfield 28, 3) := by decide +kernel
theorem dX9_init_39 : decode cX9_init 39 = .ok (.aload_n 0, 1) := by decide +kernel
theorem dX9_init_40 : decode cX9_init 40 = .ok (.new 32, 3) := by decide +kernel
theorem dX9_init_43 : decode cX9_init 43 = .ok (.dup, 1) := by decide +kernel
theorem dX9_init_44 : decode cX9_init 44 = .ok (.invokespecial 34, 3) := by decide +kernel
theorem dX9_init_47 : decode cX9_init 47 = .ok (.putfield 35, 3) := by decide +kernel
theorem dX9_init_50 : decode cX9_init 50 = .ok (.aload_n 0, 1) := by decide +kernel
theorem dX9_init_51 : decode cX9_init 51 = .ok (.new 39, 3) := by decide +kernel
theorem dX9_init_54 : decode cX9_init 54 = .ok (.dup, 1) := by decide +kernel
theorem dX9_init_55 : decode cX9_init 55 = .ok (.invokespecial 41, 3) := by decide +kernel
theorem dX9_init_58 : decode cX9_init 58 = .ok (.putfield 42, 3) := by decide +kernel
theorem dX9_init_61 : decode cX9_init 61 = .ok (.aload_n 0, 1) := by decide +kernel
theorem dX9_init_62 : decode cX9_init 62 = .ok (.new 46, 3) := by decide +kernel
theorem dX9_init_65 : decode cX9_init 65 = .ok (.dup, 1) := by decide +kernel
theorem dX9_init_66 : decode cX9_init 66 = .ok (.invokespecial 48, 3) := by decide +kernel
theorem dX9_init_69 : decode cX9_init 69 = .ok (.putfield 49, 3) := by decide +kernel
theorem dX9_init_72 : decode cX9_init 72 = .ok (.aload_n 0, 1) := by decide +kernel
theorem dX9_init_73 : decode cX9_init 73 = .ok (.new 53, 3) := by decide +kernel
theorem dX9_init_76 : decode cX9_init 76 = .ok (.dup, 1) := by decide +kernel
theorem dX9_init_77 : decode cX9_init 77 = .ok (.invokespecial 55, 3) := by decide +kernel
theorem dX9_init_80 : decode cX9_init 80 = .ok (.putfield 56, 3) := by decide +kernel
theorem dX9_init_83 : decode cX9_init 83 = .ok (.aload_n 0, 1) := by decide +kernel
theorem dX9_init_84 : decode cX9_init 84 = .ok (.new 60, 3) := by decide +kernel
theorem dX9_init_87 : decode cX9_init 87 = .ok (.dup, 1) := by decide +kernel
theorem dX9_init_88 : decode cX9_init 88 = .ok (.invokespecial 62, 3) := by decide +kernel
theorem dX9_init_91 : decode cX9_init 91 = .ok (.putfield 63, 3) := by decide +kernel
theorem dX9_init_94 : decode cX9_init 94 = .ok (.aload_n 0, 1) := by decide +kernel
theorem dX9_init_95 : decode cX9_init 95 = .ok (.new 67, 3) := by decide +kernel
theorem dX9_init_98 : decode cX9_init 98 = .ok (.dup, 1) := by decide +kernel
theorem dX9_init_99 : decode cX9_init 99 = .ok (.invokespecial 69, 3) := by decide +kernel
theorem dX9_init_102 : decode cX9_init 102 = .ok (.putfield 70, 3) := by decide +kernel
theorem dX9_init_105 : decode cX9_init 105 = .ok (.return_, 1) := by decide +kernel
theorem dX9_post_0 : decode cX9_post 0 = .ok (.iload_n 1, 1) := by decide +kernel
theorem dX9_post_1 : decode cX9_post 1 = .ok (.bipush 32, 2) := by decide +kernel
theorem dX9_post_3 : decode cX9_post 3 = .ok (.invokestatic 74, 3) := by decide +kernel
theorem dX9_post_6 : decode cX9_post 6 = .ok (.ifCond .eq 24, 3) := by decide +kernel
theorem dX9_post_9 : decode cX9_post 9 = .ok (.iload_n 2, 1) := by decide +kernel
theorem dX9_post_10 : decode cX9_post 10 = .ok (.bipush 32, 2) := by decide +kernel
theorem dX9_post_12 : decode cX9_post 12 = .ok (.invokestatic 74, 3) := by decide +kernel
theorem dX9_post_15 : decode cX9_post 15 = .ok (.ifCond .eq 15, 3) := by decide +kernel
theorem dX9_post_18 : decode cX9_post 18 = .ok (.aload_n 0, 1) := by decide +kernel
theorem dX9_post_19 : decode cX9_post 19 = .ok (.getfield 10, 3) := by decide +kernel
theorem dX9_post_22 : decode cX9_post 22 = .ok (.getfield 78, 3) := by decide +kernel
theorem dX9_post_25 : decode cX9_post 25 = .ok (.bipush 6, 2) := by decide +kernel
theorem dX9_post_27 : decode cX9_post 27 = .ok (.if_icmp .lt 5, 3) := by decide +kernel
theorem dX9_post_30 : decode cX9_post 30 = .ok (.iconst (-1), 1) := by decide +kernel
theorem dX9_post_31 : decode cX9_post 31 = .ok (.ireturn, 1) := by decide +kernel
theorem dX9_post_32 : decode cX9_post 32 = .ok (.aload_n 0, 1) := by decide +kernel
theorem dX9_post_33 : decode cX9_post 33 = .ok (.getfield 10, 3) := by decide +kernel
theorem dX9_post_36 : decode cX9_post 36 = .ok (.iload_n 1, 1) := by decide +kernel
theorem dX9_post_37 : decode cX9_post 37 = .ok (.iload_n 2, 1) := by decide +kernel
theorem dX9_post_38 : decode cX9_post 38 = .ok (.invokevirtual 82, 3) := by decide +kernel
theorem dX9_post_41 : decode cX9_post 41 = .ok (.ireturn, 1) := by decide +kernel
theorem dX9_listened_0 : decode cX9_listened 0 = .ok (.aload_n 0, 1) := by decide +kernel
theorem dX9_listened_1 : decode cX9_listened 1 = .ok (.iload_n 1, 1) := by decide +kernel
theorem dX9_listened_2 : decode cX9_listened 2 = .ok (.iload_n 2, 1) := by decide +kernel
theorem dX9_listened_3 : decode cX9_listened 3 = .ok (.iload_n 3, 1) := by decide +kernel
theorem dX9_listened_4 : decode cX9_listened 4 = .ok (.iload 4, 2) := by decide +kernel
theorem dX9_listened_6 : decode cX9_listened 6 = .ok (.invokevirtual 86, 3) := by decide +kernel
theorem dX9_listened_9 : decode cX9_listened 9 = .ok (.ifCond .eq 15, 3) := by decide +kernel
theorem dX9_listened_12 : decode cX9_listened 12 = .ok (.aload_n 0, 1) := by decide +kernel
theorem dX9_listened_13 : decode cX9_listened 13 = .ok (.getfield 21, 3) := by decide +kernel
theorem dX9_listened_16 : decode cX9_listened 16 = .ok (.getfield 90, 3) := by decide +kernel
theorem dX9_listened_19 : decode cX9_listened 19 = .ok (.bipush 100, 2) := by decide +kernel
theorem dX9_listened_21 : decode cX9_listened 21 = .ok (.if_icmp .lt 5, 3) := by decide +kernel
theorem dX9_listened_24 : decode cX9_listened 24 = .ok (.iconst (-1), 1) := by decide +kernel
theorem dX9_listened_25 : decode cX9_listened 25 = .ok (.ireturn, 1) := by decide +kernel
theorem dX9_listened_26 : decode cX9_listened 26 = .ok (.aload_n 0, 1) := by decide +kernel
theorem dX9_listened_27 : decode cX9_listened 27 = .ok (.getfield 21, 3) := by decide +kernel
theorem dX9_listened_30 : decode cX9_listened 30 = .ok (.iload_n 1, 1) := by decide +kernel
theorem dX9_listened_31 : decode cX9_listened 31 = .ok (.iload_n 2, 1) := by decide +kernel
theorem dX9_listened_32 : decode cX9_listened 32 = .ok (.iload_n 3, 1) := by decide +kernel
theorem dX9_listened_33 : decode cX9_listened 33 = .ok (.iload 4, 2) := by decide +kernel
theorem dX9_listened_35 : decode cX9_listened 35 = .ok (.invokevirtual 91, 3) := by decide +kernel
theorem dX9_listened_38 : decode cX9_listened 38 = .ok (.iconst 1, 1) := by decide +kernel
theorem dX9_listened_39 : decode cX9_listened 39 = .ok (.iadd, 1) := by decide +kernel
theorem dX9_listened_40 : decode cX9_listened 40 = .ok (.ireturn, 1) := by decide +kernel
theorem dX9_mark_0 : decode cX9_mark 0 = .ok (.aload_n 0, 1) := by decide +kernel
theorem dX9_mark_1 : decode cX9_mark 1 = .ok (.iload_n 1, 1) := by decide +kernel
theorem dX9_mark_2 : decode cX9_mark 2 = .ok (.iload_n 2, 1) := by decide +kernel
theorem dX9_mark_3 : decode cX9_mark 3 = .ok (.iload_n 3, 1) := by decide +kernel
theorem dX9_mark_4 : decode cX9_mark 4 = .ok (.iload 4, 2) := by decide +kernel
theorem dX9_mark_6 : decode cX9_mark 6 = .ok (.invokevirtual 86, 3) := by decide +kernel
theorem dX9_mark_9 : decode cX9_mark 9 = .ok (.ifCond .eq 44, 3) := by decide +kernel
theorem dX9_mark_12 : decode cX9_mark 12 = .ok (.iload 5, 2) := by decide +kernel
theorem dX9_mark_14 : decode cX9_mark 14 = .ok (.sipush 1000, 3) := by decide +kernel
theorem dX9_mark_17 : decode cX9_mark 17 = .ok (.invokestatic 74, 3) := by decide +kernel
theorem dX9_mark_20 : decode cX9_mark 20 = .ok (.ifCond .eq 33, 3) := by decide +kernel
theorem dX9_mark_23 : decode cX9_mark 23 = .ok (.aload_n 0, 1) := by decide +kernel
theorem dX9_mark_24 : decode cX9_mark 24 = .ok (.getfield 28, 3) := by decide +kernel
theorem dX9_mark_27 : decode cX9_mark 27 = .ok (.getfield 94, 3) := by decide +kernel
theorem dX9_mark_30 : decode cX9_mark 30 = .ok (.getfield 90, 3) := by decide +kernel
theorem dX9_mark_33 : decode cX9_mark 33 = .ok (.bipush 60, 2) := by decide +kernel
theorem dX9_mark_35 : decode cX9_mark 35 = .ok (.if_icmp .ge 18, 3) := by decide +kernel
theorem dX9_mark_38 : decode cX9_mark 38 = .ok (.aload_n 0, 1) := by decide +kernel
theorem dX9_mark_39 : decode cX9_mark 39 = .ok (.getfield 21, 3) := by decide +kernel
theorem dX9_mark_42 : decode cX9_mark 42 = .ok (.iload_n 1, 1) := by decide +kernel
theorem dX9_mark_43 : decode cX9_mark 43 = .ok (.iload_n 2, 1) := by decide +kernel
theorem dX9_mark_44 : decode cX9_mark 44 = .ok (.iload_n 3, 1) := by decide +kernel
theorem dX9_mark_45 : decode cX9_mark 45 = .ok (.iload 4, 2) := by decide +kernel
theorem dX9_mark_47 : decode cX9_mark 47 = .ok (.invokevirtual 97, 3) := by decide +kernel
theorem dX9_mark_50 : decode cX9_mark 50 = .ok (.ifCond .ne 5, 3) := by decide +kernel
theorem dX9_mark_53 : decode cX9_mark 53 = .ok (.iconst (-1), 1) := by decide +kernel
theorem dX9_mark_54 : decode cX9_mark 54 = .ok (.ireturn, 1) := by decide +kernel
theorem dX9_mark_55 : decode cX9_mark 55 = .ok (.aload_n 0, 1) := by decide +kernel
theorem dX9_mark_56 : decode cX9_mark 56 = .ok (.getfield 28, 3) := by decide +kernel
theorem dX9_mark_59 : decode cX9_mark 59 = .ok (.iload_n 1, 1) := by decide +kernel
theorem dX9_mark_60 : decode cX9_mark 60 = .ok (.iload_n 2, 1) := by decide +kernel
theorem dX9_mark_61 : decode cX9_mark 61 = .ok (.iload_n 3, 1) := by decide +kernel
theorem dX9_mark_62 : decode cX9_mark 62 = .ok (.iload 4, 2) := by decide +kernel
theorem dX9_mark_64 : decode cX9_mark 64 = .ok (.iload 5, 2) := by decide +kernel
theorem dX9_mark_66 : decode cX9_mark 66 = .ok (.invokevirtual 100, 3) := by decide +kernel
theorem dX9_mark_69 : decode cX9_mark 69 = .ok (.istore 6, 2) := by decide +kernel
theorem dX9_mark_71 : decode cX9_mark 71 = .ok (.aload_n 0, 1) := by decide +kernel
theorem dX9_mark_72 : decode cX9_mark 72 = .ok (.getfield 35, 3) := by decide +kernel
theorem dX9_mark_75 : decode cX9_mark 75 = .ok (.aload_n 0, 1) := by decide +kernel
theorem dX9_mark_76 : decode cX9_mark 76 = .ok (.getfield 28, 3) := by decide +kernel
theorem dX9_mark_79 : decode cX9_mark 79 = .ok (.invokevirtual 103, 3) := by decide +kernel
theorem dX9_mark_82 : decode cX9_mark 82 = .ok (.iload 6, 2) := by decide +kernel
theorem dX9_mark_84 : decode cX9_mark 84 = .ok (.ireturn, 1) := by decide +kernel
theorem dX9_wedge_0 : decode cX9_wedge 0 = .ok (.iload_n 1, 1) := by decide +kernel
theorem dX9_wedge_1 : decode cX9_wedge 1 = .ok (.aload_n 0, 1) := by decide +kernel
theorem dX9_wedge_2 : decode cX9_wedge 2 = .ok (.getfield 28, 3) := by decide +kernel
theorem dX9_wedge_5 : decode cX9_wedge 5 = .ok (.getfield 94, 3) := by decide +kernel
theorem dX9_wedge_8 : decode cX9_wedge 8 = .ok (.getfield 90, 3) := by decide +kernel
theorem dX9_wedge_11 : decode cX9_wedge 11 = .ok (.invokestatic 74, 3) := by decide +kernel
theorem dX9_wedge_14 : decode cX9_wedge 14 = .ok (.ifCond .eq 45, 3) := by decide +kernel
theorem dX9_wedge_17 : decode cX9_wedge 17 = .ok (.iload_n 2, 1) := by decide +kernel
theorem dX9_wedge_18 : decode cX9_wedge 18 = .ok (.invokestatic 107, 3) := by decide +kernel
theorem dX9_wedge_21 : decode cX9_wedge 21 = .ok (.ifCond .eq 38, 3) := by decide +kernel
theorem dX9_wedge_24 : decode cX9_wedge 24 = .ok (.iload_n 3, 1) := by decide +kernel
theorem dX9_wedge_25 : decode cX9_wedge 25 = .ok (.invokestatic 107, 3) := by decide +kernel
theorem dX9_wedge_28 : decode cX9_wedge 28 = .ok (.ifCond .eq 31, 3) := by decide +kernel
theorem dX9_wedge_31 : decode cX9_wedge 31 = .ok (.iload 4, 2) := by decide +kernel
theorem dX9_wedge_33 : decode cX9_wedge 33 = .ok (.invokestatic 107, 3) := by decide +kernel
theorem dX9_wedge_36 : decode cX9_wedge 36 = .ok (.ifCond .eq 23, 3) := by decide +kernel
theorem dX9_wedge_39 : decode cX9_wedge 39 = .ok (.iload 5, 2) := by decide +kernel
theorem dX9_wedge_41 : decode cX9_wedge 41 = .ok (.invokestatic 107, 3) := by decide +kernel
theorem dX9_wedge_44 : decode cX9_wedge 44 = .ok (.ifCond .eq 15, 3) := by decide +kernel
theorem dX9_wedge_47 : decode cX9_wedge 47 = .ok (.iload_n 2, 1) := by decide +kernel
theorem dX9_wedge_48 : decode cX9_wedge 48 = .ok (.iload 5, 2) := by decide +kernel
theorem dX9_wedge_50 : decode cX9_wedge 50 = .ok (.imul, 1) := by decide +kernel
theorem dX9_wedge_51 : decode cX9_wedge 51 = .ok (.iload_n 3, 1) := by decide +kernel
theorem dX9_wedge_52 : decode cX9_wedge 52 = .ok (.iload 4, 2) := by decide +kernel
theorem dX9_wedge_54 : decode cX9_wedge 54 = .ok (.imul, 1) := by decide +kernel
theorem dX9_wedge_55 : decode cX9_wedge 55 = .ok (.isub, 1) := by decide +kernel
theorem dX9_wedge_56 : decode cX9_wedge 56 = .ok (.ifCond .gt 5, 3) := by decide +kernel
theorem dX9_wedge_59 : decode cX9_wedge 59 = .ok (.iconst 0, 1) := by decide +kernel
theorem dX9_wedge_60 : decode cX9_wedge 60 = .ok (.ireturn, 1) := by decide +kernel
theorem dX9_wedge_61 : decode cX9_wedge 61 = .ok (.aload_n 0, 1) := by decide +kernel
theorem dX9_wedge_62 : decode cX9_wedge 62 = .ok (.getfield 28, 3) := by decide +kernel
theorem dX9_wedge_65 : decode cX9_wedge 65 = .ok (.getfield 94, 3) := by decide +kernel
theorem dX9_wedge_68 : decode cX9_wedge 68 = .ok (.getfield 111, 3) := by decide +kernel
theorem dX9_wedge_71 : decode cX9_wedge 71 = .ok (.iload_n 1, 1) := by decide +kernel
theorem dX9_wedge_72 : decode cX9_wedge 72 = .ok (.iaload, 1) := by decide +kernel
theorem dX9_wedge_73 : decode cX9_wedge 73 = .ok (.istore 6, 2) := by decide +kernel
theorem dX9_wedge_75 : decode cX9_wedge 75 = .ok (.aload_n 0, 1) := by decide +kernel
theorem dX9_wedge_76 : decode cX9_wedge 76 = .ok (.getfield 28, 3) := by decide +kernel
theorem dX9_wedge_79 : decode cX9_wedge 79 = .ok (.iload_n 1, 1) := by decide +kernel
theorem dX9_wedge_80 : decode cX9_wedge 80 = .ok (.invokevirtual 115, 3) := by decide +kernel
theorem dX9_wedge_83 : decode cX9_wedge 83 = .ok (.iconst 0, 1) := by decide +kernel
theorem dX9_wedge_84 : decode cX9_wedge 84 = .ok (.istore 7, 2) := by decide +kernel
theorem dX9_wedge_86 : decode cX9_wedge 86 = .ok (.iload 7, 2) := by decide +kernel
theorem dX9_wedge_88 : decode cX9_wedge 88 = .ok (.sipush 1024, 3) := by decide +kernel
theorem dX9_wedge_91 : decode cX9_wedge 91 = .ok (.if_icmp .ge 81, 3) := by decide +kernel
theorem dX9_wedge_94 : decode cX9_wedge 94 = .ok (.iload 7, 2) := by decide +kernel
theorem dX9_wedge_96 : decode cX9_wedge 96 = .ok (.bipush 32, 2) := by decide +kernel
theorem dX9_wedge_98 : decode cX9_wedge 98 = .ok (.irem, 1) := by decide +kernel
theorem dX9_wedge_99 : decode cX9_wedge 99 = .ok (.aload_n 0, 1) := by decide +kernel
theorem dX9_wedge_100 : decode cX9_wedge 100 = .ok (.getfield 10, 3) := by decide +kernel
theorem dX9_wedge_103 : decode cX9_wedge 103 = .ok (.getfield 118, 3) := by decide +kernel
theorem dX9_wedge_106 : decode cX9_wedge 106 = .ok (.iload 6, 2) := by decide +kernel
theorem dX9_wedge_108 : decode cX9_wedge 108 = .ok (.iaload, 1) := by decide +kernel
theorem dX9_wedge_109 : decode cX9_wedge 109 = .ok (.isub, 1) := by decide +kernel
theorem dX9_wedge_110 : decode cX9_wedge 110 = .ok (.istore 8, 2) := by decide +kernel
theorem dX9_wedge_112 : decode cX9_wedge 112 = .ok (.iload 7, 2) := by decide +kernel
theorem dX9_wedge_114 : decode cX9_wedge 114 = .ok (.bipush 32, 2) := by decide +kernel
theorem dX9_wedge_116 : decode cX9_wedge 116 = .ok (.idiv, 1) := by decide +kernel
theorem dX9_wedge_117 : decode cX9_wedge 117 = .ok (.aload_n 0, 1) := by decide +kernel
theorem dX9_wedge_118 : decode cX9_wedge 118 = .ok (.getfield 10, 3) := by decide +kernel
theorem dX9_wedge_121 : decode cX9_wedge 121 = .ok (.getfield 121, 3) := by decide +kernel
theorem dX9_wedge_124 : decode cX9_wedge 124 = .ok (.iload 6, 2) := by decide +kernel
theorem dX9_wedge_126 : decode cX9_wedge 126 = .ok (.iaload, 1) := by decide +kernel
theorem dX9_wedge_127 : decode cX9_wedge 127 = .ok (.isub, 1) := by decide +kernel
theorem dX9_wedge_128 : decode cX9_wedge 128 = .ok (.istore 9, 2) := by decide +kernel
theorem dX9_wedge_130 : decode cX9_wedge 130 = .ok (.iload_n 2, 1) := by decide +kernel
theorem dX9_wedge_131 : decode cX9_wedge 131 = .ok (.iload 9, 2) := by decide +kernel
theorem dX9_wedge_133 : decode cX9_wedge 133 = .ok (.imul, 1) := by decide +kernel
theorem dX9_wedge_134 : decode cX9_wedge 134 = .ok (.iload_n 3, 1) := by decide +kernel
theorem dX9_wedge_135 : decode cX9_wedge 135 = .ok (.iload 8, 2) := by decide +kernel
theorem dX9_wedge_137 : decode cX9_wedge 137 = .ok (.imul, 1) := by decide +kernel
theorem dX9_wedge_138 : decode cX9_wedge 138 = .ok (.isub, 1) := by decide +kernel
theorem dX9_wedge_139 : decode cX9_wedge 139 = .ok (.ifCond .lt 27, 3) := by decide +kernel
theorem dX9_wedge_142 : decode cX9_wedge 142 = .ok (.iload 8, 2) := by decide +kernel
theorem dX9_wedge_144 : decode cX9_wedge 144 = .ok (.iload 5, 2) := by decide +kernel
theorem dX9_wedge_146 : decode cX9_wedge 146 = .ok (.imul, 1) := by decide +kernel
theorem dX9_wedge_147 : decode cX9_wedge 147 = .ok (.iload 9, 2) := by decide +kernel
theorem dX9_wedge_149 : decode cX9_wedge 149 = .ok (.iload 4, 2) := by decide +kernel
theorem dX9_wedge_151 : decode cX9_wedge 151 = .ok (.imul, 1) := by decide +kernel
theorem dX9_wedge_152 : decode cX9_wedge 152 = .ok (.isub, 1) := by decide +kernel
theorem dX9_wedge_153 : decode cX9_wedge 153 = .ok (.ifCond .lt 13, 3) := by decide +kernel
theorem dX9_wedge_156 : decode cX9_wedge 156 = .ok (.aload_n 0, 1) := by decide +kernel
theorem dX9_wedge_157 : decode cX9_wedge 157 = .ok (.getfield 28, 3) := by decide +kernel
theorem dX9_wedge_160 : decode cX9_wedge 160 = .ok (.iload_n 1, 1) := by decide +kernel
theorem dX9_wedge_161 : decode cX9_wedge 161 = .ok (.iload 7, 2) := by decide +kernel
theorem dX9_wedge_163 : decode cX9_wedge 163 = .ok (.invokevirtual 124, 3) := by decide +kernel
theorem dX9_wedge_166 : decode cX9_wedge 166 = .ok (.iinc 7 1, 3) := by decide +kernel
theorem dX9_wedge_169 : decode cX9_wedge 169 = .ok (.goto (-83), 3) := by decide +kernel
theorem dX9_wedge_172 : decode cX9_wedge 172 = .ok (.iconst 1, 1) := by decide +kernel
theorem dX9_wedge_173 : decode cX9_wedge 173 = .ok (.ireturn, 1) := by decide +kernel
theorem dX9_joins_0 : decode cX9_joins 0 = .ok (.iload_n 1, 1) := by decide +kernel
theorem dX9_joins_1 : decode cX9_joins 1 = .ok (.bipush 100, 2) := by decide +kernel
theorem dX9_joins_3 : decode cX9_joins 3 = .ok (.invokestatic 74, 3) := by decide +kernel
theorem dX9_joins_6 : decode cX9_joins 6 = .ok (.ifCond .eq 13, 3) := by decide +kernel
theorem dX9_joins_9 : decode cX9_joins 9 = .ok (.iload_n 2, 1) := by decide +kernel
theorem dX9_joins_10 : decode cX9_joins 10 = .ok (.sipush 1000, 3) := by decide +kernel
theorem dX9_joins_13 : decode cX9_joins 13 = .ok (.invokestatic 74, 3) := by decide +kernel
theorem dX9_joins_16 : decode cX9_joins 16 = .ok (.ifCond .ne 5, 3) := by decide +kernel
theorem dX9_joins_19 : decode cX9_joins 19 = .ok (.iconst 0, 1) := by decide +kernel
theorem dX9_joins_20 : decode cX9_joins 20 = .ok (.ireturn, 1) := by decide +kernel
theorem dX9_joins_21 : decode cX9_joins 21 = .ok (.aload_n 0, 1) := by decide +kernel
theorem dX9_joins_22 : decode cX9_joins 22 = .ok (.getfield 35, 3) := by decide +kernel
theorem dX9_joins_25 : decode cX9_joins 25 = .ok (.iload_n 1, 1) := by decide +kernel
theorem dX9_joins_26 : decode cX9_joins 26 = .ok (.putfield 128, 3) := by decide +kernel
theorem dX9_joins_29 : decode cX9_joins 29 = .ok (.aload_n 0, 1) := by decide +kernel
theorem dX9_joins_30 : decode cX9_joins 30 = .ok (.getfield 35, 3) := by decide +kernel
theorem dX9_joins_33 : decode cX9_joins 33 = .ok (.iload_n 2, 1) := by decide +kernel
theorem dX9_joins_34 : decode cX9_joins 34 = .ok (.putfield 131, 3) := by decide +kernel
theorem dX9_joins_37 : decode cX9_joins 37 = .ok (.aload_n 0, 1) := by decide +kernel
theorem dX9_joins_38 : decode cX9_joins 38 = .ok (.getfield 35, 3) := by decide +kernel
theorem dX9_joins_41 : decode cX9_joins 41 = .ok (.aload_n 0, 1) := by decide +kernel
theorem dX9_joins_42 : decode cX9_joins 42 = .ok (.getfield 28, 3) := by decide +kernel
theorem dX9_joins_45 : decode cX9_joins 45 = .ok (.invokevirtual 103, 3) := by decide +kernel
theorem dX9_joins_48 : decode cX9_joins 48 = .ok (.iconst 1, 1) := by decide +kernel
theorem dX9_joins_49 : decode cX9_joins 49 = .ok (.ireturn, 1) := by decide +kernel
theorem dX9_senders_0 : decode cX9_senders 0 = .ok (.aload_n 0, 1) := by decide +kernel
theorem dX9_senders_1 : decode cX9_senders 1 = .ok (.getfield 35, 3) := by decide +kernel
theorem dX9_senders_4 : decode cX9_senders 4 = .ok (.getfield 134, 3) := by decide +kernel
theorem dX9_senders_7 : decode cX9_senders 7 = .ok (.ireturn, 1) := by decide +kernel
theorem dX9_senderOf_0 : decode cX9_senderOf 0 = .ok (.iload_n 1, 1) := by decide +kernel
theorem dX9_senderOf_1 : decode cX9_senderOf 1 = .ok (.aload_n 0, 1) := by decide +kernel
theorem dX9_senderOf_2 : decode cX9_senderOf 2 = .ok (.getfield 28, 3) := by decide +kernel
theorem dX9_senderOf_5 : decode cX9_senderOf 5 = .ok (.getfield 94, 3) := by decide +kernel
theorem dX9_senderOf_8 : decode cX9_senderOf 8 = .ok (.getfield 90, 3) := by decide +kernel
theorem dX9_senderOf_11 : decode cX9_senderOf 11 = .ok (.invokestatic 74, 3) := by decide +kernel
theorem dX9_senderOf_14 : decode cX9_senderOf 14 = .ok (.ifCond .eq 15, 3) := by decide +kernel
theorem dX9_senderOf_17 : decode cX9_senderOf 17 = .ok (.aload_n 0, 1) := by decide +kernel
theorem dX9_senderOf_18 : decode cX9_senderOf 18 = .ok (.getfield 35, 3) := by decide +kernel
theorem dX9_senderOf_21 : decode cX9_senderOf 21 = .ok (.getfield 135, 3) := by decide +kernel
theorem dX9_senderOf_24 : decode cX9_senderOf 24 = .ok (.iload_n 1, 1) := by decide +kernel
theorem dX9_senderOf_25 : decode cX9_senderOf 25 = .ok (.iaload, 1) := by decide +kernel
theorem dX9_senderOf_26 : decode cX9_senderOf 26 = .ok (.goto 4, 3) := by decide +kernel
theorem dX9_senderOf_29 : decode cX9_senderOf 29 = .ok (.iconst (-1), 1) := by decide +kernel
theorem dX9_senderOf_30 : decode cX9_senderOf 30 = .ok (.ireturn, 1) := by decide +kernel
theorem dX9_sender_0 : decode cX9_sender 0 = .ok (.iload_n 1, 1) := by decide +kernel
theorem dX9_sender_1 : decode cX9_sender 1 = .ok (.aload_n 0, 1) := by decide +kernel
theorem dX9_sender_2 : decode cX9_sender 2 = .ok (.getfield 35, 3) := by decide +kernel
theorem dX9_sender_5 : decode cX9_sender 5 = .ok (.getfield 134, 3) := by decide +kernel
theorem dX9_sender_8 : decode cX9_sender 8 = .ok (.invokestatic 74, 3) := by decide +kernel
theorem dX9_sender_11 : decode cX9_sender 11 = .ok (.ifCond .ne 5, 3) := by decide +kernel
theorem dX9_sender_14 : decode cX9_sender 14 = .ok (.iconst (-1), 1) := by decide +kernel
theorem dX9_sender_15 : decode cX9_sender 15 = .ok (.ireturn, 1) := by decide +kernel
theorem dX9_sender_16 : decode cX9_sender 16 = .ok (.aload_n 0, 1) := by decide +kernel
theorem dX9_sender_17 : decode cX9_sender 17 = .ok (.getfield 42, 3) := by decide +kernel
theorem dX9_sender_20 : decode cX9_sender 20 = .ok (.aload_n 0, 1) := by decide +kernel
theorem dX9_sender_21 : decode cX9_sender 21 = .ok (.getfield 28, 3) := by decide +kernel
theorem dX9_sender_24 : decode cX9_sender 24 = .ok (.aload_n 0, 1) := by decide +kernel
theorem dX9_sender_25 : decode cX9_sender 25 = .ok (.getfield 35, 3) := by decide +kernel
theorem dX9_sender_28 : decode cX9_sender 28 = .ok (.getfield 135, 3) := by decide +kernel
theorem dX9_sender_31 : decode cX9_sender 31 = .ok (.iload_n 1, 1) := by decide +kernel
theorem dX9_sender_32 : decode cX9_sender 32 = .ok (.invokevirtual 138, 3) := by decide +kernel
theorem dX9_sender_35 : decode cX9_sender 35 = .ok (.iload_n 2, 1) := by decide +kernel
theorem dX9_sender_36 : decode cX9_sender 36 = .ok (.tableswitch 129 0 8 #[52, 62, 70, 78, 86, 94, 102, 110, 118], 52) := by decide +kernel
theorem dX9_sender_88 : decode cX9_sender 88 = .ok (.aload_n 0, 1) := by decide +kernel
theorem dX9_sender_89 : decode cX9_sender 89 = .ok (.getfield 42, 3) := by decide +kernel
theorem dX9_sender_92 : decode cX9_sender 92 = .ok (.getfield 142, 3) := by decide +kernel
theorem dX9_sender_95 : decode cX9_sender 95 = .ok (.iconst 0, 1) := by decide +kernel
theorem dX9_sender_96 : decode cX9_sender 96 = .ok (.iaload, 1) := by decide +kernel
theorem dX9_sender_97 : decode cX9_sender 97 = .ok (.ireturn, 1) := by decide +kernel
theorem dX9_sender_98 : decode cX9_sender 98 = .ok (.aload_n 0, 1) := by decide +kernel
theorem dX9_sender_99 : decode cX9_sender 99 = .ok (.getfield 42, 3) := by decide +kernel
theorem dX9_sender_102 : decode cX9_sender 102 = .ok (.getfield 145, 3) := by decide +kernel
theorem dX9_sender_105 : decode cX9_sender 105 = .ok (.ireturn, 1) := by decide +kernel
theorem dX9_sender_106 : decode cX9_sender 106 = .ok (.aload_n 0, 1) := by decide +kernel
theorem dX9_sender_107 : decode cX9_sender 107 = .ok (.getfield 42, 3) := by decide +kernel
theorem dX9_sender_110 : decode cX9_sender 110 = .ok (.getfield 146, 3) := by decide +kernel
theorem dX9_sender_113 : decode cX9_sender 113 = .ok (.ireturn, 1) := by decide +kernel
theorem dX9_sender_114 : decode cX9_sender 114 = .ok (.aload_n 0, 1) := by decide +kernel
theorem dX9_sender_115 : decode cX9_sender 115 = .ok (.getfield 42, 3) := by decide +kernel
theorem dX9_sender_118 : decode cX9_sender 118 = .ok (.getfield 149, 3) := by decide +kernel
theorem dX9_sender_121 : decode cX9_sender 121 = .ok (.ireturn, 1) := by decide +kernel
theorem dX9_sender_122 : decode cX9_sender 122 = .ok (.aload_n 0, 1) := by decide +kernel
theorem dX9_sender_123 : decode cX9_sender 123 = .ok (.getfield 42, 3) := by decide +kernel
theorem dX9_sender_126 : decode cX9_sender 126 = .ok (.getfield 152, 3) := by decide +kernel
theorem dX9_sender_129 : decode cX9_sender 129 = .ok (.ireturn, 1) := by decide +kernel
theorem dX9_sender_130 : decode cX9_sender 130 = .ok (.aload_n 0, 1) := by decide +kernel
theorem dX9_sender_131 : decode cX9_sender 131 = .ok (.getfield 42, 3) := by decide +kernel
theorem dX9_sender_134 : decode cX9_sender 134 = .ok (.getfield 155, 3) := by decide +kernel
theorem dX9_sender_137 : decode cX9_sender 137 = .ok (.ireturn, 1) := by decide +kernel
theorem dX9_sender_138 : decode cX9_sender 138 = .ok (.aload_n 0, 1) := by decide +kernel
theorem dX9_sender_139 : decode cX9_sender 139 = .ok (.getfield 42, 3) := by decide +kernel
theorem dX9_sender_142 : decode cX9_sender 142 = .ok (.getfield 158, 3) := by decide +kernel
theorem dX9_sender_145 : decode cX9_sender 145 = .ok (.ireturn, 1) := by decide +kernel
theorem dX9_sender_146 : decode cX9_sender 146 = .ok (.aload_n 0, 1) := by decide +kernel
theorem dX9_sender_147 : decode cX9_sender 147 = .ok (.getfield 42, 3) := by decide +kernel
theorem dX9_sender_150 : decode cX9_sender 150 = .ok (.invokevirtual 161, 3) := by decide +kernel
theorem dX9_sender_153 : decode cX9_sender 153 = .ok (.ireturn, 1) := by decide +kernel
theorem dX9_sender_154 : decode cX9_sender 154 = .ok (.aload_n 0, 1) := by decide +kernel
theorem dX9_sender_155 : decode cX9_sender 155 = .ok (.getfield 42, 3) := by decide +kernel
theorem dX9_sender_158 : decode cX9_sender 158 = .ok (.getfield 165, 3) := by decide +kernel
theorem dX9_sender_161 : decode cX9_sender 161 = .ok (.invokestatic 167, 3) := by decide +kernel
theorem dX9_sender_164 : decode cX9_sender 164 = .ok (.ireturn, 1) := by decide +kernel
theorem dX9_sender_165 : decode cX9_sender 165 = .ok (.iconst (-1), 1) := by decide +kernel
theorem dX9_sender_166 : decode cX9_sender 166 = .ok (.ireturn, 1) := by decide +kernel
theorem dX9_place_0 : decode cX9_place 0 = .ok (.iload_n 1, 1) := by decide +kernel
theorem dX9_place_1 : decode cX9_place 1 = .ok (.aload_n 0, 1) := by decide +kernel
theorem dX9_place_2 : decode cX9_place 2 = .ok (.getfield 35, 3) := by decide +kernel
theorem dX9_place_5 : decode cX9_place 5 = .ok (.getfield 134, 3) := by decide +kernel
theorem dX9_place_8 : decode cX9_place 8 = .ok (.invokestatic 74, 3) := by decide +kernel
theorem dX9_place_11 : decode cX9_place 11 = .ok (.ifCond .eq 13, 3) := by decide +kernel
theorem dX9_place_14 : decode cX9_place 14 = .ok (.iload_n 2, 1) := by decide +kernel
theorem dX9_place_15 : decode cX9_place 15 = .ok (.sipush 1024, 3) := by decide +kernel
theorem dX9_place_18 : decode cX9_place 18 = .ok (.invokestatic 74, 3) := by decide +kernel
theorem dX9_place_21 : decode cX9_place 21 = .ok (.ifCond .ne 5, 3) := by decide +kernel
theorem dX9_place_24 : decode cX9_place 24 = .ok (.iconst (-1), 1) := by decide +kernel
theorem dX9_place_25 : decode cX9_place 25 = .ok (.ireturn, 1) := by decide +kernel
theorem dX9_place_26 : decode cX9_place 26 = .ok (.aload_n 0, 1) := by decide +kernel
theorem dX9_place_27 : decode cX9_place 27 = .ok (.getfield 42, 3) := by decide +kernel
theorem dX9_place_30 : decode cX9_place 30 = .ok (.aload_n 0, 1) := by decide +kernel
theorem dX9_place_31 : decode cX9_place 31 = .ok (.getfield 28, 3) := by decide +kernel
theorem dX9_place_34 : decode cX9_place 34 = .ok (.aload_n 0, 1) := by decide +kernel
theorem dX9_place_35 : decode cX9_place 35 = .ok (.getfield 35, 3) := by decide +kernel
theorem dX9_place_38 : decode cX9_place 38 = .ok (.getfield 135, 3) := by decide +kernel
theorem dX9_place_41 : decode cX9_place 41 = .ok (.iload_n 1, 1) := by decide +kernel
theorem dX9_place_42 : decode cX9_place 42 = .ok (.invokevirtual 138, 3) := by decide +kernel
theorem dX9_place_45 : decode cX9_place 45 = .ok (.aload_n 0, 1) := by decide +kernel
theorem dX9_place_46 : decode cX9_place 46 = .ok (.getfield 42, 3) := by decide +kernel
theorem dX9_place_49 : decode cX9_place 49 = .ok (.iload_n 2, 1) := by decide +kernel
theorem dX9_place_50 : decode cX9_place 50 = .ok (.invokevirtual 173, 3) := by decide +kernel
theorem dX9_place_53 : decode cX9_place 53 = .ok (.ireturn, 1) := by decide +kernel
theorem dX9_box_0 : decode cX9_box 0 = .ok (.iload_n 1, 1) := by decide +kernel
theorem dX9_box_1 : decode cX9_box 1 = .ok (.aload_n 0, 1) := by decide +kernel
theorem dX9_box_2 : decode cX9_box 2 = .ok (.getfield 35, 3) := by decide +kernel
theorem dX9_box_5 : decode cX9_box 5 = .ok (.getfield 134, 3) := by decide +kernel
theorem dX9_box_8 : decode cX9_box 8 = .ok (.invokestatic 74, 3) := by decide +kernel
theorem dX9_box_11 : decode cX9_box 11 = .ok (.ifCond .eq 11, 3) := by decide +kernel
theorem dX9_box_14 : decode cX9_box 14 = .ok (.iload_n 2, 1) := by decide +kernel
theorem dX9_box_15 : decode cX9_box 15 = .ok (.iconst 4, 1) := by decide +kernel
theorem dX9_box_16 : decode cX9_box 16 = .ok (.invokestatic 74, 3) := by decide +kernel
theorem dX9_box_19 : decode cX9_box 19 = .ok (.ifCond .ne 5, 3) := by decide +kernel
theorem dX9_box_22 : decode cX9_box 22 = .ok (.iconst (-1), 1) := by decide +kernel
theorem dX9_box_23 : decode cX9_box 23 = .ok (.ireturn, 1) := by decide +kernel
theorem dX9_box_24 : decode cX9_box 24 = .ok (.aload_n 0, 1) := by decide +kernel
theorem dX9_box_25 : decode cX9_box 25 = .ok (.getfield 42, 3) := by decide +kernel
theorem dX9_box_28 : decode cX9_box 28 = .ok (.aload_n 0, 1) := by decide +kernel
theorem dX9_box_29 : decode cX9_box 29 = .ok (.getfield 28, 3) := by decide +kernel
theorem dX9_box_32 : decode cX9_box 32 = .ok (.aload_n 0, 1) := by decide +kernel
theorem dX9_box_33 : decode cX9_box 33 = .ok (.getfield 35, 3) := by decide +kernel
theorem dX9_box_36 : decode cX9_box 36 = .ok (.getfield 135, 3) := by decide +kernel
theorem dX9_box_39 : decode cX9_box 39 = .ok (.iload_n 1, 1) := by decide +kernel
theorem dX9_box_40 : decode cX9_box 40 = .ok (.invokevirtual 138, 3) := by decide +kernel
theorem dX9_box_43 : decode cX9_box 43 = .ok (.aload_n 0, 1) := by decide +kernel
theorem dX9_box_44 : decode cX9_box 44 = .ok (.getfield 42, 3) := by decide +kernel
theorem dX9_box_47 : decode cX9_box 47 = .ok (.iload_n 2, 1) := by decide +kernel
theorem dX9_box_48 : decode cX9_box 48 = .ok (.iconst 2, 1) := by decide +kernel
theorem dX9_box_49 : decode cX9_box 49 = .ok (.if_icmp .lt 7, 3) := by decide +kernel
theorem dX9_box_52 : decode cX9_box 52 = .ok (.iconst 1, 1) := by decide +kernel
theorem dX9_box_53 : decode cX9_box 53 = .ok (.goto 4, 3) := by decide +kernel
theorem dX9_box_56 : decode cX9_box 56 = .ok (.iconst 0, 1) := by decide +kernel
theorem dX9_box_57 : decode cX9_box 57 = .ok (.iload_n 2, 1) := by decide +kernel
theorem dX9_box_58 : decode cX9_box 58 = .ok (.iconst 2, 1) := by decide +kernel
theorem dX9_box_59 : decode cX9_box 59 = .ok (.irem, 1) := by decide +kernel
theorem dX9_box_60 : decode cX9_box 60 = .ok (.iconst 1, 1) := by decide +kernel
theorem dX9_box_61 : decode cX9_box 61 = .ok (.if_icmp .ne 7, 3) := by decide +kernel
theorem dX9_box_64 : decode cX9_box 64 = .ok (.iconst 1, 1) := by decide +kernel
theorem dX9_box_65 : decode cX9_box 65 = .ok (.goto 4, 3) := by decide +kernel
theorem dX9_box_68 : decode cX9_box 68 = .ok (.iconst 0, 1) := by decide +kernel
theorem dX9_box_69 : decode cX9_box 69 = .ok (.invokevirtual 176, 3) := by decide +kernel
theorem dX9_box_72 : decode cX9_box 72 = .ok (.ireturn, 1) := by decide +kernel
theorem dX9_minutes_0 : decode cX9_minutes 0 = .ok (.iload_n 1, 1) := by decide +kernel
theorem dX9_minutes_1 : decode cX9_minutes 1 = .ok (.bipush 16, 2) := by decide +kernel
theorem dX9_minutes_3 : decode cX9_minutes 3 = .ok (.invokestatic 74, 3) := by decide +kernel
theorem dX9_minutes_6 : decode cX9_minutes 6 = .ok (.ifCond .eq 20, 3) := by decide +kernel
theorem dX9_minutes_9 : decode cX9_minutes 9 = .ok (.iload_n 2, 1) := by decide +kernel
theorem dX9_minutes_10 : decode cX9_minutes 10 = .ok (.iload_n 3, 1) := by decide +kernel
theorem dX9_minutes_11 : decode cX9_minutes 11 = .ok (.invokestatic 180, 3) := by decide +kernel
theorem dX9_minutes_14 : decode cX9_minutes 14 = .ok (.ifCond .eq 12, 3) := by decide +kernel
theorem dX9_minutes_17 : decode cX9_minutes 17 = .ok (.iload 4, 2) := by decide +kernel
theorem dX9_minutes_19 : decode cX9_minutes 19 = .ok (.iconst 3, 1) := by decide +kernel
theorem dX9_minutes_20 : decode cX9_minutes 20 = .ok (.invokestatic 74, 3) := by decide +kernel
theorem dX9_minutes_23 : decode cX9_minutes 23 = .ok (.ifCond .ne 5, 3) := by decide +kernel
theorem dX9_minutes_26 : decode cX9_minutes 26 = .ok (.iconst (-1), 1) := by decide +kernel
theorem dX9_minutes_27 : decode cX9_minutes 27 = .ok (.ireturn, 1) := by decide +kernel
theorem dX9_minutes_28 : decode cX9_minutes 28 = .ok (.iconst 0, 1) := by decide +kernel
theorem dX9_minutes_29 : decode cX9_minutes 29 = .ok (.istore 5, 2) := by decide +kernel
theorem dX9_minutes_31 : decode cX9_minutes 31 = .ok (.iload_n 2, 1) := by decide +kernel
theorem dX9_minutes_32 : decode cX9_minutes 32 = .ok (.istore 6, 2) := by decide +kernel
theorem dX9_minutes_34 : decode cX9_minutes 34 = .ok (.iload_n 2, 1) := by decide +kernel
theorem dX9_minutes_35 : decode cX9_minutes 35 = .ok (.istore 7, 2) := by decide +kernel
theorem dX9_minutes_37 : decode cX9_minutes 37 = .ok (.iload 7, 2) := by decide +kernel
theorem dX9_minutes_39 : decode cX9_minutes 39 = .ok (.iload_n 3, 1) := by decide +kernel
theorem dX9_minutes_40 : decode cX9_minutes 40 = .ok (.if_icmp .gt 51, 3) := by decide +kernel
theorem dX9_minutes_43 : decode cX9_minutes 43 = .ok (.aload_n 0, 1) := by decide +kernel
theorem dX9_minutes_44 : decode cX9_minutes 44 = .ok (.iload_n 1, 1) := by decide +kernel
theorem dX9_minutes_45 : decode cX9_minutes 45 = .ok (.iload 7, 2) := by decide +kernel
theorem dX9_minutes_47 : decode cX9_minutes 47 = .ok (.iload_n 3, 1) := by decide +kernel
theorem dX9_minutes_48 : decode cX9_minutes 48 = .ok (.iconst 1, 1) := by decide +kernel
theorem dX9_minutes_49 : decode cX9_minutes 49 = .ok (.iadd, 1) := by decide +kernel
theorem dX9_minutes_50 : decode cX9_minutes 50 = .ok (.invokevirtual 183, 3) := by decide +kernel
theorem dX9_minutes_53 : decode cX9_minutes 53 = .ok (.istore 6, 2) := by decide +kernel
theorem dX9_minutes_55 : decode cX9_minutes 55 = .ok (.aload_n 0, 1) := by decide +kernel
theorem dX9_minutes_56 : decode cX9_minutes 56 = .ok (.iload_n 1, 1) := by decide +kernel
theorem dX9_minutes_57 : decode cX9_minutes 57 = .ok (.iload 7, 2) := by decide +kernel
theorem dX9_minutes_59 : decode cX9_minutes 59 = .ok (.invokevirtual 187, 3) := by decide +kernel
theorem dX9_minutes_62 : decode cX9_minutes 62 = .ok (.iload 4, 2) := by decide +kernel
theorem dX9_minutes_64 : decode cX9_minutes 64 = .ok (.if_icmp .ne 13, 3) := by decide +kernel
theorem dX9_minutes_67 : decode cX9_minutes 67 = .ok (.iload 5, 2) := by decide +kernel
theorem dX9_minutes_69 : decode cX9_minutes 69 = .ok (.iload 6, 2) := by decide +kernel
theorem dX9_minutes_71 : decode cX9_minutes 71 = .ok (.iload 7, 2) := by decide +kernel
theorem dX9_minutes_73 : decode cX9_minutes 73 = .ok (.isub, 1) := by decide +kernel
theorem dX9_minutes_74 : decode cX9_minutes 74 = .ok (.iadd, 1) := by decide +kernel
theorem dX9_minutes_75 : decode cX9_minutes 75 = .ok (.istore 5, 2) := by decide +kernel
theorem dX9_minutes_77 : decode cX9_minutes 77 = .ok (.iload 7, 2) := by decide +kernel
theorem dX9_minutes_79 : decode cX9_minutes 79 = .ok (.iconst 1, 1) := by decide +kernel
theorem dX9_minutes_80 : decode cX9_minutes 80 = .ok (.iadd, 1) := by decide +kernel
theorem dX9_minutes_81 : decode cX9_minutes 81 = .ok (.iload 6, 2) := by decide +kernel
theorem dX9_minutes_83 : decode cX9_minutes 83 = .ok (.invokestatic 190, 3) := by decide +kernel
theorem dX9_minutes_86 : decode cX9_minutes 86 = .ok (.istore 7, 2) := by decide +kernel
theorem dX9_minutes_88 : decode cX9_minutes 88 = .ok (.goto (-51), 3) := by decide +kernel
theorem dX9_minutes_91 : decode cX9_minutes 91 = .ok (.iload 5, 2) := by decide +kernel
theorem dX9_minutes_93 : decode cX9_minutes 93 = .ok (.ireturn, 1) := by decide +kernel
theorem dX9_blind_0 : decode cX9_blind 0 = .ok (.iload_n 1, 1) := by decide +kernel
theorem dX9_blind_1 : decode cX9_blind 1 = .ok (.bipush 16, 2) := by decide +kernel
theorem dX9_blind_3 : decode cX9_blind 3 = .ok (.invokestatic 74, 3) := by decide +kernel
theorem dX9_blind_6 : decode cX9_blind 6 = .ok (.ifCond .eq 11, 3) := by decide +kernel
theorem dX9_blind_9 : decode cX9_blind 9 = .ok (.iload_n 2, 1) := by decide +kernel
theorem dX9_blind_10 : decode cX9_blind 10 = .ok (.iload_n 3, 1) := by decide +kernel
theorem dX9_blind_11 : decode cX9_blind 11 = .ok (.invokestatic 180, 3) := by decide +kernel
theorem dX9_blind_14 : decode cX9_blind 14 = .ok (.ifCond .ne 5, 3) := by decide +kernel
theorem dX9_blind_17 : decode cX9_blind 17 = .ok (.iconst (-1), 1) := by decide +kernel
theorem dX9_blind_18 : decode cX9_blind 18 = .ok (.ireturn, 1) := by decide +kernel
theorem dX9_blind_19 : decode cX9_blind 19 = .ok (.iconst 0, 1) := by decide +kernel
theorem dX9_blind_20 : decode cX9_blind 20 = .ok (.istore 4, 2) := by decide +kernel
theorem dX9_blind_22 : decode cX9_blind 22 = .ok (.iload_n 2, 1) := by decide +kernel
theorem dX9_blind_23 : decode cX9_blind 23 = .ok (.istore 5, 2) := by decide +kernel
theorem dX9_blind_25 : decode cX9_blind 25 = .ok (.iload_n 2, 1) := by decide +kernel
theorem dX9_blind_26 : decode cX9_blind 26 = .ok (.istore 6, 2) := by decide +kernel
theorem dX9_blind_28 : decode cX9_blind 28 = .ok (.iload 6, 2) := by decide +kernel
theorem dX9_blind_30 : decode cX9_blind 30 = .ok (.iload_n 3, 1) := by decide +kernel
theorem dX9_blind_31 : decode cX9_blind 31 = .ok (.if_icmp .gt 52, 3) := by decide +kernel
theorem dX9_blind_34 : decode cX9_blind 34 = .ok (.aload_n 0, 1) := by decide +kernel
theorem dX9_blind_35 : decode cX9_blind 35 = .ok (.iload_n 1, 1) := by decide +kernel
theorem dX9_blind_36 : decode cX9_blind 36 = .ok (.iload 6, 2) := by decide +kernel
theorem dX9_blind_38 : decode cX9_blind 38 = .ok (.iload_n 3, 1) := by decide +kernel
theorem dX9_blind_39 : decode cX9_blind 39 = .ok (.iconst 1, 1) := by decide +kernel
theorem dX9_blind_40 : decode cX9_blind 40 = .ok (.iadd, 1) := by decide +kernel
theorem dX9_blind_41 : decode cX9_blind 41 = .ok (.invokevirtual 183, 3) := by decide +kernel
theorem dX9_blind_44 : decode cX9_blind 44 = .ok (.istore 5, 2) := by decide +kernel
theorem dX9_blind_46 : decode cX9_blind 46 = .ok (.aload_n 0, 1) := by decide +kernel
theorem dX9_blind_47 : decode cX9_blind 47 = .ok (.iload_n 1, 1) := by decide +kernel
theorem dX9_blind_48 : decode cX9_blind 48 = .ok (.iload 6, 2) := by decide +kernel
theorem dX9_blind_50 : decode cX9_blind 50 = .ok (.invokevirtual 187, 3) := by decide +kernel
theorem dX9_blind_53 : decode cX9_blind 53 = .ok (.iconst 2, 1) := by decide +kernel
theorem dX9_blind_54 : decode cX9_blind 54 = .ok (.if_icmp .ne 15, 3) := by decide +kernel
theorem dX9_blind_57 : decode cX9_blind 57 = .ok (.iload 4, 2) := by decide +kernel
theorem dX9_blind_59 : decode cX9_blind 59 = .ok (.iload 5, 2) := by decide +kernel
theorem dX9_blind_61 : decode cX9_blind 61 = .ok (.iload 6, 2) := by decide +kernel
theorem dX9_blind_63 : decode cX9_blind 63 = .ok (.isub, 1) := by decide +kernel
theorem dX9_blind_64 : decode cX9_blind 64 = .ok (.invokestatic 190, 3) := by decide +kernel
theorem dX9_blind_67 : decode cX9_blind 67 = .ok (.istore 4, 2) := by decide +kernel
theorem dX9_blind_69 : decode cX9_blind 69 = .ok (.iload 6, 2) := by decide +kernel
theorem dX9_blind_71 : decode cX9_blind 71 = .ok (.iconst 1, 1) := by decide +kernel
theorem dX9_blind_72 : decode cX9_blind 72 = .ok (.iadd, 1) := by decide +kernel
theorem dX9_blind_73 : decode cX9_blind 73 = .ok (.iload 5, 2) := by decide +kernel
theorem dX9_blind_75 : decode cX9_blind 75 = .ok (.invokestatic 190, 3) := by decide +kernel
theorem dX9_blind_78 : decode cX9_blind 78 = .ok (.istore 6, 2) := by decide +kernel
theorem dX9_blind_80 : decode cX9_blind 80 = .ok (.goto (-52), 3) := by decide +kernel
theorem dX9_blind_83 : decode cX9_blind 83 = .ok (.iload 4, 2) := by decide +kernel
theorem dX9_blind_85 : decode cX9_blind 85 = .ok (.ireturn, 1) := by decide +kernel
theorem dX9_feed_0 : decode cX9_feed 0 = .ok (.aload_n 0, 1) := by decide +kernel
theorem dX9_feed_1 : decode cX9_feed 1 = .ok (.getfield 49, 3) := by decide +kernel
theorem dX9_feed_4 : decode cX9_feed 4 = .ok (.getfield 195, 3) := by decide +kernel
theorem dX9_feed_7 : decode cX9_feed 7 = .ok (.bipush 20, 2) := by decide +kernel
theorem dX9_feed_9 : decode cX9_feed 9 = .ok (.iadd, 1) := by decide +kernel
theorem dX9_feed_10 : decode cX9_feed 10 = .ok (.bipush 100, 2) := by decide +kernel
theorem dX9_feed_12 : decode cX9_feed 12 = .ok (.if_icmp .le 5, 3) := by decide +kernel
theorem dX9_feed_15 : decode cX9_feed 15 = .ok (.iconst (-1), 1) := by decide +kernel
theorem dX9_feed_16 : decode cX9_feed 16 = .ok (.ireturn, 1) := by decide +kernel
theorem dX9_feed_17 : decode cX9_feed 17 = .ok (.aload_n 0, 1) := by decide +kernel
theorem dX9_feed_18 : decode cX9_feed 18 = .ok (.getfield 49, 3) := by decide +kernel
theorem dX9_feed_21 : decode cX9_feed 21 = .ok (.iload_n 1, 1) := by decide +kernel
theorem dX9_feed_22 : decode cX9_feed 22 = .ok (.invokevirtual 198, 3) := by decide +kernel
theorem dX9_feed_25 : decode cX9_feed 25 = .ok (.aload_n 0, 1) := by decide +kernel
theorem dX9_feed_26 : decode cX9_feed 26 = .ok (.getfield 49, 3) := by decide +kernel
theorem dX9_feed_29 : decode cX9_feed 29 = .ok (.iload_n 2, 1) := by decide +kernel
theorem dX9_feed_30 : decode cX9_feed 30 = .ok (.invokevirtual 198, 3) := by decide +kernel
theorem dX9_feed_33 : decode cX9_feed 33 = .ok (.aload_n 0, 1) := by decide +kernel
theorem dX9_feed_34 : decode cX9_feed 34 = .ok (.getfield 49, 3) := by decide +kernel
theorem dX9_feed_37 : decode cX9_feed 37 = .ok (.iload_n 3, 1) := by decide +kernel
theorem dX9_feed_38 : decode cX9_feed 38 = .ok (.invokevirtual 198, 3) := by decide +kernel
theorem dX9_feed_41 : decode cX9_feed 41 = .ok (.aload_n 0, 1) := by decide +kernel
theorem dX9_feed_42 : decode cX9_feed 42 = .ok (.getfield 49, 3) := by decide +kernel
theorem dX9_feed_45 : decode cX9_feed 45 = .ok (.iload 4, 2) := by decide +kernel
theorem dX9_feed_47 : decode cX9_feed 47 = .ok (.invokevirtual 198, 3) := by decide +kernel
theorem dX9_feed_50 : decode cX9_feed 50 = .ok (.aload_n 0, 1) := by decide +kernel
theorem dX9_feed_51 : decode cX9_feed 51 = .ok (.getfield 49, 3) := by decide +kernel
theorem dX9_feed_54 : decode cX9_feed 54 = .ok (.iload 5, 2) := by decide +kernel
theorem dX9_feed_56 : decode cX9_feed 56 = .ok (.invokevirtual 198, 3) := by decide +kernel
theorem dX9_feed_59 : decode cX9_feed 59 = .ok (.aload_n 0, 1) := by decide +kernel
theorem dX9_feed_60 : decode cX9_feed 60 = .ok (.getfield 49, 3) := by decide +kernel
theorem dX9_feed_63 : decode cX9_feed 63 = .ok (.getfield 195, 3) := by decide +kernel
theorem dX9_feed_66 : decode cX9_feed 66 = .ok (.ireturn, 1) := by decide +kernel
theorem dX9_end_0 : decode cX9_end 0 = .ok (.iload_n 1, 1) := by decide +kernel
theorem dX9_end_1 : decode cX9_end 1 = .ok (.ifCond .lt 14, 3) := by decide +kernel
theorem dX9_end_4 : decode cX9_end 4 = .ok (.iload_n 1, 1) := by decide +kernel
theorem dX9_end_5 : decode cX9_end 5 = .ok (.aload_n 0, 1) := by decide +kernel
theorem dX9_end_6 : decode cX9_end 6 = .ok (.getfield 49, 3) := by decide +kernel
theorem dX9_end_9 : decode cX9_end 9 = .ok (.getfield 195, 3) := by decide +kernel
theorem dX9_end_12 : decode cX9_end 12 = .ok (.if_icmp .le 5, 3) := by decide +kernel
theorem dX9_end_15 : decode cX9_end 15 = .ok (.iconst (-1), 1) := by decide +kernel
theorem dX9_end_16 : decode cX9_end 16 = .ok (.ireturn, 1) := by decide +kernel
theorem dX9_end_17 : decode cX9_end 17 = .ok (.aload_n 0, 1) := by decide +kernel
theorem dX9_end_18 : decode cX9_end 18 = .ok (.getfield 49, 3) := by decide +kernel
theorem dX9_end_21 : decode cX9_end 21 = .ok (.iload_n 1, 1) := by decide +kernel
theorem dX9_end_22 : decode cX9_end 22 = .ok (.putfield 195, 3) := by decide +kernel
theorem dX9_end_25 : decode cX9_end 25 = .ok (.iload_n 1, 1) := by decide +kernel
theorem dX9_end_26 : decode cX9_end 26 = .ok (.ireturn, 1) := by decide +kernel
theorem dX9_licence_0 : decode cX9_licence 0 = .ok (.aload_n 0, 1) := by decide +kernel
theorem dX9_licence_1 : decode cX9_licence 1 = .ok (.getfield 63, 3) := by decide +kernel
theorem dX9_licence_4 : decode cX9_licence 4 = .ok (.getfield 200, 3) := by decide +kernel
theorem dX9_licence_7 : decode cX9_licence 7 = .ok (.bipush 10, 2) := by decide +kernel
theorem dX9_licence_9 : decode cX9_licence 9 = .ok (.if_icmp .lt 5, 3) := by decide +kernel
theorem dX9_licence_12 : decode cX9_licence 12 = .ok (.iconst (-1), 1) := by decide +kernel
theorem dX9_licence_13 : decode cX9_licence 13 = .ok (.ireturn, 1) := by decide +kernel
theorem dX9_licence_14 : decode cX9_licence 14 = .ok (.aload_n 0, 1) := by decide +kernel
theorem dX9_licence_15 : decode cX9_licence 15 = .ok (.getfield 56, 3) := by decide +kernel
theorem dX9_licence_18 : decode cX9_licence 18 = .ok (.aload_n 0, 1) := by decide +kernel
theorem dX9_licence_19 : decode cX9_licence 19 = .ok (.getfield 49, 3) := by decide +kernel
theorem dX9_licence_22 : decode cX9_licence 22 = .ok (.invokevirtual 201, 3) := by decide +kernel
theorem dX9_licence_25 : decode cX9_licence 25 = .ok (.aload_n 0, 1) := by decide +kernel
theorem dX9_licence_26 : decode cX9_licence 26 = .ok (.getfield 49, 3) := by decide +kernel
theorem dX9_licence_29 : decode cX9_licence 29 = .ok (.iconst 0, 1) := by decide +kernel
theorem dX9_licence_30 : decode cX9_licence 30 = .ok (.putfield 195, 3) := by decide +kernel
theorem dX9_licence_33 : decode cX9_licence 33 = .ok (.aload_n 0, 1) := by decide +kernel
theorem dX9_licence_34 : decode cX9_licence 34 = .ok (.getfield 56, 3) := by decide +kernel
theorem dX9_licence_37 : decode cX9_licence 37 = .ok (.getfield 205, 3) := by decide +kernel
theorem dX9_licence_40 : decode cX9_licence 40 = .ok (.ifCond .ne 20, 3) := by decide +kernel
theorem dX9_licence_43 : decode cX9_licence 43 = .ok (.aload_n 0, 1) := by decide +kernel
theorem dX9_licence_44 : decode cX9_licence 44 = .ok (.getfield 63, 3) := by decide +kernel
theorem dX9_licence_47 : decode cX9_licence 47 = .ok (.aload_n 0, 1) := by decide +kernel
theorem dX9_licence_48 : decode cX9_licence 48 = .ok (.getfield 56, 3) := by decide +kernel
theorem dX9_licence_51 : decode cX9_licence 51 = .ok (.getfield 208, 3) := by decide +kernel
theorem dX9_licence_54 : decode cX9_licence 54 = .ok (.invokevirtual 211, 3) := by decide +kernel
theorem dX9_licence_57 : decode cX9_licence 57 = .ok (.goto 4, 3) := by decide +kernel
theorem dX9_licence_60 : decode cX9_licence 60 = .ok (.iconst (-1), 1) := by decide +kernel
theorem dX9_licence_61 : decode cX9_licence 61 = .ok (.ireturn, 1) := by decide +kernel
theorem dX9_fault_0 : decode cX9_fault 0 = .ok (.iload_n 1, 1) := by decide +kernel
theorem dX9_fault_1 : decode cX9_fault 1 = .ok (.lookupswitch 43 #[(0, 27), (1, 35)], 27) := by decide +kernel
theorem dX9_fault_28 : decode cX9_fault 28 = .ok (.aload_n 0, 1) := by decide +kernel
theorem dX9_fault_29 : decode cX9_fault 29 = .ok (.getfield 56, 3) := by decide +kernel
theorem dX9_fault_32 : decode cX9_fault 32 = .ok (.getfield 205, 3) := by decide +kernel
theorem dX9_fault_35 : decode cX9_fault 35 = .ok (.ireturn, 1) := by decide +kernel
theorem dX9_fault_36 : decode cX9_fault 36 = .ok (.aload_n 0, 1) := by decide +kernel
theorem dX9_fault_37 : decode cX9_fault 37 = .ok (.getfield 56, 3) := by decide +kernel
theorem dX9_fault_40 : decode cX9_fault 40 = .ok (.getfield 214, 3) := by decide +kernel
theorem dX9_fault_43 : decode cX9_fault 43 = .ok (.ireturn, 1) := by decide +kernel
theorem dX9_fault_44 : decode cX9_fault 44 = .ok (.iconst (-1), 1) := by decide +kernel
theorem dX9_fault_45 : decode cX9_fault 45 = .ok (.ireturn, 1) := by decide +kernel
theorem dX9_fits_0 : decode cX9_fits 0 = .ok (.iload_n 1, 1) := by decide +kernel
theorem dX9_fits_1 : decode cX9_fits 1 = .ok (.aload_n 0, 1) := by decide +kernel
theorem dX9_fits_2 : decode cX9_fits 2 = .ok (.getfield 35, 3) := by decide +kernel
theorem dX9_fits_5 : decode cX9_fits 5 = .ok (.getfield 134, 3) := by decide +kernel
theorem dX9_fits_8 : decode cX9_fits 8 = .ok (.invokestatic 74, 3) := by decide +kernel
theorem dX9_fits_11 : decode cX9_fits 11 = .ok (.ifCond .eq 17, 3) := by decide +kernel
theorem dX9_fits_14 : decode cX9_fits 14 = .ok (.iload_n 2, 1) := by decide +kernel
theorem dX9_fits_15 : decode cX9_fits 15 = .ok (.aload_n 0, 1) := by decide +kernel
theorem dX9_fits_16 : decode cX9_fits 16 = .ok (.getfield 63, 3) := by decide +kernel
theorem dX9_fits_19 : decode cX9_fits 19 = .ok (.getfield 200, 3) := by decide +kernel
theorem dX9_fits_22 : decode cX9_fits 22 = .ok (.invokestatic 74, 3) := by decide +kernel
theorem dX9_fits_25 : decode cX9_fits 25 = .ok (.ifCond .ne 5, 3) := by decide +kernel
theorem dX9_fits_28 : decode cX9_fits 28 = .ok (.iconst (-1), 1) := by decide +kernel
theorem dX9_fits_29 : decode cX9_fits 29 = .ok (.ireturn, 1) := by decide +kernel
theorem dX9_fits_30 : decode cX9_fits 30 = .ok (.aload_n 0, 1) := by decide +kernel
theorem dX9_fits_31 : decode cX9_fits 31 = .ok (.getfield 42, 3) := by decide +kernel
theorem dX9_fits_34 : decode cX9_fits 34 = .ok (.aload_n 0, 1) := by decide +kernel
theorem dX9_fits_35 : decode cX9_fits 35 = .ok (.getfield 28, 3) := by decide +kernel
theorem dX9_fits_38 : decode cX9_fits 38 = .ok (.aload_n 0, 1) := by decide +kernel
theorem dX9_fits_39 : decode cX9_fits 39 = .ok (.getfield 35, 3) := by decide +kernel
theorem dX9_fits_42 : decode cX9_fits 42 = .ok (.getfield 135, 3) := by decide +kernel
theorem dX9_fits_45 : decode cX9_fits 45 = .ok (.iload_n 1, 1) := by decide +kernel
theorem dX9_fits_46 : decode cX9_fits 46 = .ok (.invokevirtual 138, 3) := by decide +kernel
theorem dX9_fits_49 : decode cX9_fits 49 = .ok (.aload_n 0, 1) := by decide +kernel
theorem dX9_fits_50 : decode cX9_fits 50 = .ok (.getfield 63, 3) := by decide +kernel
theorem dX9_fits_53 : decode cX9_fits 53 = .ok (.iload_n 2, 1) := by decide +kernel
theorem dX9_fits_54 : decode cX9_fits 54 = .ok (.aload_n 0, 1) := by decide +kernel
theorem dX9_fits_55 : decode cX9_fits 55 = .ok (.getfield 42, 3) := by decide +kernel
theorem dX9_fits_58 : decode cX9_fits 58 = .ok (.aload_n 0, 1) := by decide +kernel
theorem dX9_fits_59 : decode cX9_fits 59 = .ok (.getfield 28, 3) := by decide +kernel
theorem dX9_fits_62 : decode cX9_fits 62 = .ok (.getfield 94, 3) := by decide +kernel
theorem dX9_fits_65 : decode cX9_fits 65 = .ok (.invokevirtual 217, 3) := by decide +kernel
theorem dX9_fits_68 : decode cX9_fits 68 = .ok (.ireturn, 1) := by decide +kernel
theorem dX9_best_0 : decode cX9_best 0 = .ok (.iload_n 1, 1) := by decide +kernel
theorem dX9_best_1 : decode cX9_best 1 = .ok (.aload_n 0, 1) := by decide +kernel
theorem dX9_best_2 : decode cX9_best 2 = .ok (.getfield 35, 3) := by decide +kernel
theorem dX9_best_5 : decode cX9_best 5 = .ok (.getfield 134, 3) := by decide +kernel
theorem dX9_best_8 : decode cX9_best 8 = .ok (.invokestatic 74, 3) := by decide +kernel
theorem dX9_best_11 : decode cX9_best 11 = .ok (.ifCond .eq 21, 3) := by decide +kernel
theorem dX9_best_14 : decode cX9_best 14 = .ok (.iload_n 2, 1) := by decide +kernel
theorem dX9_best_15 : decode cX9_best 15 = .ok (.iconst 2, 1) := by decide +kernel
theorem dX9_best_16 : decode cX9_best 16 = .ok (.invokestatic 74, 3) := by decide +kernel
theorem dX9_best_19 : decode cX9_best 19 = .ok (.ifCond .eq 13, 3) := by decide +kernel
theorem dX9_best_22 : decode cX9_best 22 = .ok (.aload_n 0, 1) := by decide +kernel
theorem dX9_best_23 : decode cX9_best 23 = .ok (.getfield 63, 3) := by decide +kernel
theorem dX9_best_26 : decode cX9_best 26 = .ok (.getfield 200, 3) := by decide +kernel
theorem dX9_best_29 : decode cX9_best 29 = .ok (.ifCond .ne 5, 3) := by decide +kernel
theorem dX9_best_32 : decode cX9_best 32 = .ok (.iconst (-1), 1) := by decide +kernel
theorem dX9_best_33 : decode cX9_best 33 = .ok (.ireturn, 1) := by decide +kernel
theorem dX9_best_34 : decode cX9_best 34 = .ok (.aload_n 0, 1) := by decide +kernel
theorem dX9_best_35 : decode cX9_best 35 = .ok (.getfield 42, 3) := by decide +kernel
theorem dX9_best_38 : decode cX9_best 38 = .ok (.aload_n 0, 1) := by decide +kernel
theorem dX9_best_39 : decode cX9_best 39 = .ok (.getfield 28, 3) := by decide +kernel
theorem dX9_best_42 : decode cX9_best 42 = .ok (.aload_n 0, 1) := by decide +kernel
theorem dX9_best_43 : decode cX9_best 43 = .ok (.getfield 35, 3) := by decide +kernel
theorem dX9_best_46 : decode cX9_best 46 = .ok (.getfield 135, 3) := by decide +kernel
theorem dX9_best_49 : decode cX9_best 49 = .ok (.iload_n 1, 1) := by decide +kernel
theorem dX9_best_50 : decode cX9_best 50 = .ok (.invokevirtual 138, 3) := by decide +kernel
theorem dX9_best_53 : decode cX9_best 53 = .ok (.aload_n 0, 1) := by decide +kernel
theorem dX9_best_54 : decode cX9_best 54 = .ok (.getfield 63, 3) := by decide +kernel
theorem dX9_best_57 : decode cX9_best 57 = .ok (.aload_n 0, 1) := by decide +kernel
theorem dX9_best_58 : decode cX9_best 58 = .ok (.getfield 42, 3) := by decide +kernel
theorem dX9_best_61 : decode cX9_best 61 = .ok (.aload_n 0, 1) := by decide +kernel
theorem dX9_best_62 : decode cX9_best 62 = .ok (.getfield 28, 3) := by decide +kernel
theorem dX9_best_65 : decode cX9_best 65 = .ok (.getfield 94, 3) := by decide +kernel
theorem dX9_best_68 : decode cX9_best 68 = .ok (.invokevirtual 221, 3) := by decide +kernel
theorem dX9_best_71 : decode cX9_best 71 = .ok (.istore_n 3, 1) := by decide +kernel
theorem dX9_best_72 : decode cX9_best 72 = .ok (.iload_n 2, 1) := by decide +kernel
theorem dX9_best_73 : decode cX9_best 73 = .ok (.ifCond .ne 7, 3) := by decide +kernel
theorem dX9_best_76 : decode cX9_best 76 = .ok (.iload_n 3, 1) := by decide +kernel
theorem dX9_best_77 : decode cX9_best 77 = .ok (.goto 22, 3) := by decide +kernel
theorem dX9_best_80 : decode cX9_best 80 = .ok (.aload_n 0, 1) := by decide +kernel
theorem dX9_best_81 : decode cX9_best 81 = .ok (.getfield 63, 3) := by decide +kernel
theorem dX9_best_84 : decode cX9_best 84 = .ok (.iload_n 3, 1) := by decide +kernel
theorem dX9_best_85 : decode cX9_best 85 = .ok (.aload_n 0, 1) := by decide +kernel
theorem dX9_best_86 : decode cX9_best 86 = .ok (.getfield 42, 3) := by decide +kernel
theorem dX9_best_89 : decode cX9_best 89 = .ok (.aload_n 0, 1) := by decide +kernel
theorem dX9_best_90 : decode cX9_best 90 = .ok (.getfield 28, 3) := by decide +kernel
theorem dX9_best_93 : decode cX9_best 93 = .ok (.getfield 94, 3) := by decide +kernel
theorem dX9_best_96 : decode cX9_best 96 = .ok (.invokevirtual 217, 3) := by decide +kernel
theorem dX9_best_99 : decode cX9_best 99 = .ok (.ireturn, 1) := by decide +kernel
theorem dX9_wanderers_0 : decode cX9_wanderers 0 = .ok (.iconst 0, 1) := by decide +kernel
theorem dX9_wanderers_1 : decode cX9_wanderers 1 = .ok (.istore_n 1, 1) := by decide +kernel
theorem dX9_wanderers_2 : decode cX9_wanderers 2 = .ok (.iconst 0, 1) := by decide +kernel
theorem dX9_wanderers_3 : decode cX9_wanderers 3 = .ok (.istore_n 2, 1) := by decide +kernel
theorem dX9_wanderers_4 : decode cX9_wanderers 4 = .ok (.iload_n 2, 1) := by decide +kernel
theorem dX9_wanderers_5 : decode cX9_wanderers 5 = .ok (.aload_n 0, 1) := by decide +kernel
theorem dX9_wanderers_6 : decode cX9_wanderers 6 = .ok (.getfield 35, 3) := by decide +kernel
theorem dX9_wanderers_9 : decode cX9_wanderers 9 = .ok (.getfield 134, 3) := by decide +kernel
theorem dX9_wanderers_12 : decode cX9_wanderers 12 = .ok (.if_icmp .ge 77, 3) := by decide +kernel
theorem dX9_wanderers_15 : decode cX9_wanderers 15 = .ok (.aload_n 0, 1) := by decide +kernel
theorem dX9_wanderers_16 : decode cX9_wanderers 16 = .ok (.getfield 42, 3) := by decide +kernel
theorem dX9_wanderers_19 : decode cX9_wanderers 19 = .ok (.aload_n 0, 1) := by decide +kernel
theorem dX9_wanderers_20 : decode cX9_wanderers 20 = .ok (.getfield 28, 3) := by decide +kernel
theorem dX9_wanderers_23 : decode cX9_wanderers 23 = .ok (.aload_n 0, 1) := by decide +kernel
theorem dX9_wanderers_24 : decode cX9_wanderers 24 = .ok (.getfield 35, 3) := by decide +kernel
theorem dX9_wanderers_27 : decode cX9_wanderers 27 = .ok (.getfield 135, 3) := by decide +kernel
theorem dX9_wanderers_30 : decode cX9_wanderers 30 = .ok (.iload_n 2, 1) := by decide +kernel
theorem dX9_wanderers_31 : decode cX9_wanderers 31 = .ok (.invokevirtual 138, 3) := by decide +kernel
theorem dX9_wanderers_34 : decode cX9_wanderers 34 = .ok (.aload_n 0, 1) := by decide +kernel
theorem dX9_wanderers_35 : decode cX9_wanderers 35 = .ok (.getfield 63, 3) := by decide +kernel
theorem dX9_wanderers_38 : decode cX9_wanderers 38 = .ok (.aload_n 0, 1) := by decide +kernel
theorem dX9_wanderers_39 : decode cX9_wanderers 39 = .ok (.getfield 42, 3) := by decide +kernel
theorem dX9_wanderers_42 : decode cX9_wanderers 42 = .ok (.aload_n 0, 1) := by decide +kernel
theorem dX9_wanderers_43 : decode cX9_wanderers 43 = .ok (.getfield 28, 3) := by decide +kernel
theorem dX9_wanderers_46 : decode cX9_wanderers 46 = .ok (.getfield 94, 3) := by decide +kernel
theorem dX9_wanderers_49 : decode cX9_wanderers 49 = .ok (.invokevirtual 221, 3) := by decide +kernel
theorem dX9_wanderers_52 : decode cX9_wanderers 52 = .ok (.istore_n 3, 1) := by decide +kernel
theorem dX9_wanderers_53 : decode cX9_wanderers 53 = .ok (.iload_n 3, 1) := by decide +kernel
theorem dX9_wanderers_54 : decode cX9_wanderers 54 = .ok (.iconst (-1), 1) := by decide +kernel
theorem dX9_wanderers_55 : decode cX9_wanderers 55 = .ok (.if_icmp .eq 25, 3) := by decide +kernel
theorem dX9_wanderers_58 : decode cX9_wanderers 58 = .ok (.aload_n 0, 1) := by decide +kernel
theorem dX9_wanderers_59 : decode cX9_wanderers 59 = .ok (.getfield 63, 3) := by decide +kernel
theorem dX9_wanderers_62 : decode cX9_wanderers 62 = .ok (.iload_n 3, 1) := by decide +kernel
theorem dX9_wanderers_63 : decode cX9_wanderers 63 = .ok (.aload_n 0, 1) := by decide +kernel
theorem dX9_wanderers_64 : decode cX9_wanderers 64 = .ok (.getfield 42, 3) := by decide +kernel
theorem dX9_wanderers_67 : decode cX9_wanderers 67 = .ok (.aload_n 0, 1) := by decide +kernel
theorem dX9_wanderers_68 : decode cX9_wanderers 68 = .ok (.getfield 28, 3) := by decide +kernel
theorem dX9_wanderers_71 : decode cX9_wanderers 71 = .ok (.getfield 94, 3) := by decide +kernel
theorem dX9_wanderers_74 : decode cX9_wanderers 74 = .ok (.invokevirtual 217, 3) := by decide +kernel
theorem dX9_wanderers_77 : decode cX9_wanderers 77 = .ok (.ifCond .eq 6, 3) := by decide +kernel
theorem dX9_wanderers_80 : decode cX9_wanderers 80 = .ok (.iinc 1 1, 3) := by decide +kernel
theorem dX9_wanderers_83 : decode cX9_wanderers 83 = .ok (.iinc 2 1, 3) := by decide +kernel
theorem dX9_wanderers_86 : decode cX9_wanderers 86 = .ok (.goto (-82), 3) := by decide +kernel
theorem dX9_wanderers_89 : decode cX9_wanderers 89 = .ok (.iload_n 1, 1) := by decide +kernel
theorem dX9_wanderers_90 : decode cX9_wanderers 90 = .ok (.ireturn, 1) := by decide +kernel
theorem dX9_sweep_0 : decode cX9_sweep 0 = .ok (.iload_n 1, 1) := by decide +kernel
theorem dX9_sweep_1 : decode cX9_sweep 1 = .ok (.ifCond .le 55, 3) := by decide +kernel
theorem dX9_sweep_4 : decode cX9_sweep 4 = .ok (.iload_n 1, 1) := by decide +kernel
theorem dX9_sweep_5 : decode cX9_sweep 5 = .ok (.ldc 225, 2) := by decide +kernel
theorem dX9_sweep_7 : decode cX9_sweep 7 = .ok (.if_icmp .ge 49, 3) := by decide +kernel
theorem dX9_sweep_10 : decode cX9_sweep 10 = .ok (.iload_n 2, 1) := by decide +kernel
theorem dX9_sweep_11 : decode cX9_sweep 11 = .ok (.sipush 10000, 3) := by decide +kernel
theorem dX9_sweep_14 : decode cX9_sweep 14 = .ok (.invokestatic 74, 3) := by decide +kernel
theorem dX9_sweep_17 : decode cX9_sweep 17 = .ok (.ifCond .eq 39, 3) := by decide +kernel
theorem dX9_sweep_20 : decode cX9_sweep 20 = .ok (.iload_n 3, 1) := by decide +kernel
theorem dX9_sweep_21 : decode cX9_sweep 21 = .ok (.iconst 1, 1) := by decide +kernel
theorem dX9_sweep_22 : decode cX9_sweep 22 = .ok (.if_icmp .lt 34, 3) := by decide +kernel
theorem dX9_sweep_25 : decode cX9_sweep 25 = .ok (.iload_n 3, 1) := by decide +kernel
theorem dX9_sweep_26 : decode cX9_sweep 26 = .ok (.iconst 4, 1) := by decide +kernel
theorem dX9_sweep_27 : decode cX9_sweep 27 = .ok (.if_icmp .gt 29, 3) := by decide +kernel
theorem dX9_sweep_30 : decode cX9_sweep 30 = .ok (.iload 4, 2) := by decide +kernel
theorem dX9_sweep_32 : decode cX9_sweep 32 = .ok (.iconst 1, 1) := by decide +kernel
theorem dX9_sweep_33 : decode cX9_sweep 33 = .ok (.if_icmp .lt 23, 3) := by decide +kernel
theorem dX9_sweep_36 : decode cX9_sweep 36 = .ok (.iload 4, 2) := by decide +kernel
theorem dX9_sweep_38 : decode cX9_sweep 38 = .ok (.sipush 240, 3) := by decide +kernel
theorem dX9_sweep_41 : decode cX9_sweep 41 = .ok (.if_icmp .gt 15, 3) := by decide +kernel
theorem dX9_sweep_44 : decode cX9_sweep 44 = .ok (.iload_n 2, 1) := by decide +kernel
theorem dX9_sweep_45 : decode cX9_sweep 45 = .ok (.iload_n 3, 1) := by decide +kernel
theorem dX9_sweep_46 : decode cX9_sweep 46 = .ok (.iload 4, 2) := by decide +kernel
theorem dX9_sweep_48 : decode cX9_sweep 48 = .ok (.imul, 1) := by decide +kernel
theorem dX9_sweep_49 : decode cX9_sweep 49 = .ok (.iadd, 1) := by decide +kernel
theorem dX9_sweep_50 : decode cX9_sweep 50 = .ok (.sipush 10000, 3) := by decide +kernel
theorem dX9_sweep_53 : decode cX9_sweep 53 = .ok (.if_icmp .le 5, 3) := by decide +kernel
theorem dX9_sweep_56 : decode cX9_sweep 56 = .ok (.iconst (-1), 1) := by decide +kernel
theorem dX9_sweep_57 : decode cX9_sweep 57 = .ok (.ireturn, 1) := by decide +kernel
theorem dX9_sweep_58 : decode cX9_sweep 58 = .ok (.aload_n 0, 1) := by decide +kernel
theorem dX9_sweep_59 : decode cX9_sweep 59 = .ok (.getfield 70, 3) := by decide +kernel
theorem dX9_sweep_62 : decode cX9_sweep 62 = .ok (.iload_n 2, 1) := by decide +kernel
theorem dX9_sweep_63 : decode cX9_sweep 63 = .ok (.iload_n 3, 1) := by decide +kernel
theorem dX9_sweep_64 : decode cX9_sweep 64 = .ok (.iload 4, 2) := by decide +kernel
theorem dX9_sweep_66 : decode cX9_sweep 66 = .ok (.invokevirtual 226, 3) := by decide +kernel
theorem dX9_sweep_69 : decode cX9_sweep 69 = .ok (.aload_n 0, 1) := by decide +kernel
theorem dX9_sweep_70 : decode cX9_sweep 70 = .ok (.getfield 70, 3) := by decide +kernel
theorem dX9_sweep_73 : decode cX9_sweep 73 = .ok (.aload_n 0, 1) := by decide +kernel
theorem dX9_sweep_74 : decode cX9_sweep 74 = .ok (.getfield 21, 3) := by decide +kernel
theorem dX9_sweep_77 : decode cX9_sweep 77 = .ok (.iload_n 1, 1) := by decide +kernel
theorem dX9_sweep_78 : decode cX9_sweep 78 = .ok (.invokevirtual 230, 3) := by decide +kernel
theorem dX9_sweep_81 : decode cX9_sweep 81 = .ok (.aload_n 0, 1) := by decide +kernel
theorem dX9_sweep_82 : decode cX9_sweep 82 = .ok (.getfield 70, 3) := by decide +kernel
theorem dX9_sweep_85 : decode cX9_sweep 85 = .ok (.invokevirtual 234, 3) := by decide +kernel
theorem dX9_sweep_88 : decode cX9_sweep 88 = .ok (.ireturn, 1) := by decide +kernel
theorem dX9_slot_0 : decode cX9_slot 0 = .ok (.iload_n 1, 1) := by decide +kernel
theorem dX9_slot_1 : decode cX9_slot 1 = .ok (.aload_n 0, 1) := by decide +kernel
theorem dX9_slot_2 : decode cX9_slot 2 = .ok (.getfield 70, 3) := by decide +kernel
theorem dX9_slot_5 : decode cX9_slot 5 = .ok (.getfield 237, 3) := by decide +kernel
theorem dX9_slot_8 : decode cX9_slot 8 = .ok (.invokestatic 74, 3) := by decide +kernel
theorem dX9_slot_11 : decode cX9_slot 11 = .ok (.ifCond .eq 15, 3) := by decide +kernel
theorem dX9_slot_14 : decode cX9_slot 14 = .ok (.aload_n 0, 1) := by decide +kernel
theorem dX9_slot_15 : decode cX9_slot 15 = .ok (.getfield 70, 3) := by decide +kernel
theorem dX9_slot_18 : decode cX9_slot 18 = .ok (.getfield 240, 3) := by decide +kernel
theorem dX9_slot_21 : decode cX9_slot 21 = .ok (.iload_n 1, 1) := by decide +kernel
theorem dX9_slot_22 : decode cX9_slot 22 = .ok (.iaload, 1) := by decide +kernel
theorem dX9_slot_23 : decode cX9_slot 23 = .ok (.goto 4, 3) := by decide +kernel
theorem dX9_slot_26 : decode cX9_slot 26 = .ok (.iconst (-1), 1) := by decide +kernel
theorem dX9_slot_27 : decode cX9_slot 27 = .ok (.ireturn, 1) := by decide +kernel
theorem dX9_about_0 : decode cX9_about 0 = .ok (.iload_n 1, 1) := by decide +kernel
theorem dX9_about_1 : decode cX9_about 1 = .ok (.tableswitch 114 0 7 #[47, 55, 63, 74, 82, 90, 98, 106], 47) := by decide +kernel
theorem dX9_about_48 : decode cX9_about 48 = .ok (.aload_n 0, 1) := by decide +kernel
theorem dX9_about_49 : decode cX9_about 49 = .ok (.getfield 10, 3) := by decide +kernel
theorem dX9_about_52 : decode cX9_about 52 = .ok (.getfield 78, 3) := by decide +kernel
theorem dX9_about_55 : decode cX9_about 55 = .ok (.ireturn, 1) := by decide +kernel
theorem dX9_about_56 : decode cX9_about 56 = .ok (.aload_n 0, 1) := by decide +kernel
theorem dX9_about_57 : decode cX9_about 57 = .ok (.getfield 21, 3) := by decide +kernel
theorem dX9_about_60 : decode cX9_about 60 = .ok (.getfield 90, 3) := by decide +kernel
theorem dX9_about_63 : decode cX9_about 63 = .ok (.ireturn, 1) := by decide +kernel
theorem dX9_about_64 : decode cX9_about 64 = .ok (.aload_n 0, 1) := by decide +kernel
theorem dX9_about_65 : decode cX9_about 65 = .ok (.getfield 28, 3) := by decide +kernel
theorem dX9_about_68 : decode cX9_about 68 = .ok (.getfield 94, 3) := by decide +kernel
theorem dX9_about_71 : decode cX9_about 71 = .ok (.getfield 90, 3) := by decide +kernel
theorem dX9_about_74 : decode cX9_about 74 = .ok (.ireturn, 1) := by decide +kernel
theorem dX9_about_75 : decode cX9_about 75 = .ok (.aload_n 0, 1) := by decide +kernel
theorem dX9_about_76 : decode cX9_about 76 = .ok (.getfield 63, 3) := by decide +kernel
theorem dX9_about_79 : decode cX9_about 79 = .ok (.getfield 200, 3) := by decide +kernel
theorem dX9_about_82 : decode cX9_about 82 = .ok (.ireturn, 1) := by decide +kernel
theorem dX9_about_83 : decode cX9_about 83 = .ok (.aload_n 0, 1) := by decide +kernel
theorem dX9_about_84 : decode cX9_about 84 = .ok (.getfield 35, 3) := by decide +kernel
theorem dX9_about_87 : decode cX9_about 87 = .ok (.getfield 128, 3) := by decide +kernel
theorem dX9_about_90 : decode cX9_about 90 = .ok (.ireturn, 1) := by decide +kernel
theorem dX9_about_91 : decode cX9_about 91 = .ok (.aload_n 0, 1) := by decide +kernel
theorem dX9_about_92 : decode cX9_about 92 = .ok (.getfield 35, 3) := by decide +kernel
theorem dX9_about_95 : decode cX9_about 95 = .ok (.getfield 131, 3) := by decide +kernel
theorem dX9_about_98 : decode cX9_about 98 = .ok (.ireturn, 1) := by decide +kernel
theorem dX9_about_99 : decode cX9_about 99 = .ok (.aload_n 0, 1) := by decide +kernel
theorem dX9_about_100 : decode cX9_about 100 = .ok (.getfield 49, 3) := by decide +kernel
theorem dX9_about_103 : decode cX9_about 103 = .ok (.getfield 195, 3) := by decide +kernel
theorem dX9_about_106 : decode cX9_about 106 = .ok (.ireturn, 1) := by decide +kernel
theorem dX9_about_107 : decode cX9_about 107 = .ok (.aload_n 0, 1) := by decide +kernel
theorem dX9_about_108 : decode cX9_about 108 = .ok (.getfield 28, 3) := by decide +kernel
theorem dX9_about_111 : decode cX9_about 111 = .ok (.getfield 243, 3) := by decide +kernel
theorem dX9_about_114 : decode cX9_about 114 = .ok (.ireturn, 1) := by decide +kernel
theorem dX9_about_115 : decode cX9_about 115 = .ok (.iconst (-1), 1) := by decide +kernel
theorem dX9_about_116 : decode cX9_about 116 = .ok (.ireturn, 1) := by decide +kernel
theorem dX9_isBelow_0 : decode cX9_isBelow 0 = .ok (.iload_n 0, 1) := by decide +kernel
theorem dX9_isBelow_1 : decode cX9_isBelow 1 = .ok (.ifCond .lt 12, 3) := by decide +kernel
theorem dX9_isBelow_4 : decode cX9_isBelow 4 = .ok (.iload_n 0, 1) := by decide +kernel
theorem dX9_isBelow_5 : decode cX9_isBelow 5 = .ok (.iload_n 1, 1) := by decide +kernel
theorem dX9_isBelow_6 : decode cX9_isBelow 6 = .ok (.if_icmp .ge 7, 3) := by decide +kernel
theorem dX9_isBelow_9 : decode cX9_isBelow 9 = .ok (.iconst 1, 1) := by decide +kernel
theorem dX9_isBelow_10 : decode cX9_isBelow 10 = .ok (.goto 4, 3) := by decide +kernel
theorem dX9_isBelow_13 : decode cX9_isBelow 13 = .ok (.iconst 0, 1) := by decide +kernel
theorem dX9_isBelow_14 : decode cX9_isBelow 14 = .ok (.ireturn, 1) := by decide +kernel
theorem dX9_isSide_0 : decode cX9_isSide 0 = .ok (.iload_n 0, 1) := by decide +kernel
theorem dX9_isSide_1 : decode cX9_isSide 1 = .ok (.bipush (-100), 2) := by decide +kernel
theorem dX9_isSide_3 : decode cX9_isSide 3 = .ok (.if_icmp .lt 13, 3) := by decide +kernel
theorem dX9_isSide_6 : decode cX9_isSide 6 = .ok (.iload_n 0, 1) := by decide +kernel
theorem dX9_isSide_7 : decode cX9_isSide 7 = .ok (.bipush 100, 2) := by decide +kernel
theorem dX9_isSide_9 : decode cX9_isSide 9 = .ok (.if_icmp .gt 7, 3) := by decide +kernel
theorem dX9_isSide_12 : decode cX9_isSide 12 = .ok (.iconst 1, 1) := by decide +kernel
theorem dX9_isSide_13 : decode cX9_isSide 13 = .ok (.goto 4, 3) := by decide +kernel
theorem dX9_isSide_16 : decode cX9_isSide 16 = .ok (.iconst 0, 1) := by decide +kernel
theorem dX9_isSide_17 : decode cX9_isSide 17 = .ok (.ireturn, 1) := by decide +kernel
theorem dX9_isStretch_0 : decode cX9_isStretch 0 = .ok (.iload_n 0, 1) := by decide +kernel
theorem dX9_isStretch_1 : decode cX9_isStretch 1 = .ok (.ifCond .lt 19, 3) := by decide +kernel
theorem dX9_isStretch_4 : decode cX9_isStretch 4 = .ok (.iload_n 0, 1) := by decide +kernel
theorem dX9_isStretch_5 : decode cX9_isStretch 5 = .ok (.iload_n 1, 1) := by decide +kernel
theorem dX9_isStretch_6 : decode cX9_isStretch 6 = .ok (.if_icmp .gt 14, 3) := by decide +kernel
theorem dX9_isStretch_9 : decode cX9_isStretch 9 = .ok (.iload_n 1, 1) := by decide +kernel
theorem dX9_isStretch_10 : decode cX9_isStretch 10 = .ok (.sipush 10000, 3) := by decide +kernel
theorem dX9_isStretch_13 : decode cX9_isStretch 13 = .ok (.if_icmp .ge 7, 3) := by decide +kernel
theorem dX9_isStretch_16 : decode cX9_isStretch 16 = .ok (.iconst 1, 1) := by decide +kernel
theorem dX9_isStretch_17 : decode cX9_isStretch 17 = .ok (.goto 4, 3) := by decide +kernel
theorem dX9_isStretch_20 : decode cX9_isStretch 20 = .ok (.iconst 0, 1) := by decide +kernel
theorem dX9_isStretch_21 : decode cX9_isStretch 21 = .ok (.ireturn, 1) := by decide +kernel
theorem dX9_isHearing_0 : decode cX9_isHearing 0 = .ok (.iload_n 1, 1) := by decide +kernel
theorem dX9_isHearing_1 : decode cX9_isHearing 1 = .ok (.aload_n 0, 1) := by decide +kernel
theorem dX9_isHearing_2 : decode cX9_isHearing 2 = .ok (.getfield 10, 3) := by decide +kernel
theorem dX9_isHearing_5 : decode cX9_isHearing 5 = .ok (.getfield 78, 3) := by decide +kernel
theorem dX9_isHearing_8 : decode cX9_isHearing 8 = .ok (.invokestatic 74, 3) := by decide +kernel
theorem dX9_isHearing_11 : decode cX9_isHearing 11 = .ok (.ifCond .eq 25, 3) := by decide +kernel
theorem dX9_isHearing_14 : decode cX9_isHearing 14 = .ok (.iload_n 2, 1) := by decide +kernel
theorem dX9_isHearing_15 : decode cX9_isHearing 15 = .ok (.bipush 16, 2) := by decide +kernel
theorem dX9_isHearing_17 : decode cX9_isHearing 17 = .ok (.invokestatic 74, 3) := by decide +kernel
theorem dX9_isHearing_20 : decode cX9_isHearing 20 = .ok (.ifCond .eq 16, 3) := by decide +kernel
theorem dX9_isHearing_23 : decode cX9_isHearing 23 = .ok (.iload_n 3, 1) := by decide +kernel
theorem dX9_isHearing_24 : decode cX9_isHearing 24 = .ok (.iload 4, 2) := by decide +kernel
theorem dX9_isHearing_26 : decode cX9_isHearing 26 = .ok (.invokestatic 180, 3) := by decide +kernel
theorem dX9_isHearing_29 : decode cX9_isHearing 29 = .ok (.ifCond .eq 7, 3) := by decide +kernel
theorem dX9_isHearing_32 : decode cX9_isHearing 32 = .ok (.iconst 1, 1) := by decide +kernel
theorem dX9_isHearing_33 : decode cX9_isHearing 33 = .ok (.goto 4, 3) := by decide +kernel
theorem dX9_isHearing_36 : decode cX9_isHearing 36 = .ok (.iconst 0, 1) := by decide +kernel
theorem dX9_isHearing_37 : decode cX9_isHearing 37 = .ok (.ireturn, 1) := by decide +kernel
theorem dX9_stateAt_0 : decode cX9_stateAt 0 = .ok (.aload_n 0, 1) := by decide +kernel
theorem dX9_stateAt_1 : decode cX9_stateAt 1 = .ok (.getfield 28, 3) := by decide +kernel
theorem dX9_stateAt_4 : decode cX9_stateAt 4 = .ok (.getfield 94, 3) := by decide +kernel
theorem dX9_stateAt_7 : decode cX9_stateAt 7 = .ok (.iload_n 1, 1) := by decide +kernel
theorem dX9_stateAt_8 : decode cX9_stateAt 8 = .ok (.iload_n 2, 1) := by decide +kernel
theorem dX9_stateAt_9 : decode cX9_stateAt 9 = .ok (.invokevirtual 246, 3) := by decide +kernel
theorem dX9_stateAt_12 : decode cX9_stateAt 12 = .ok (.ifCond .eq 5, 3) := by decide +kernel
theorem dX9_stateAt_15 : decode cX9_stateAt 15 = .ok (.iconst 0, 1) := by decide +kernel
theorem dX9_stateAt_16 : decode cX9_stateAt 16 = .ok (.ireturn, 1) := by decide +kernel
theorem dX9_stateAt_17 : decode cX9_stateAt 17 = .ok (.aload_n 0, 1) := by decide +kernel
theorem dX9_stateAt_18 : decode cX9_stateAt 18 = .ok (.getfield 21, 3) := by decide +kernel
theorem dX9_stateAt_21 : decode cX9_stateAt 21 = .ok (.iload_n 1, 1) := by decide +kernel
theorem dX9_stateAt_22 : decode cX9_stateAt 22 = .ok (.iload_n 2, 1) := by decide +kernel
theorem dX9_stateAt_23 : decode cX9_stateAt 23 = .ok (.invokevirtual 246, 3) := by decide +kernel
theorem dX9_stateAt_26 : decode cX9_stateAt 26 = .ok (.ifCond .eq 7, 3) := by decide +kernel
theorem dX9_stateAt_29 : decode cX9_stateAt 29 = .ok (.iconst 1, 1) := by decide +kernel
theorem dX9_stateAt_30 : decode cX9_stateAt 30 = .ok (.goto 4, 3) := by decide +kernel
theorem dX9_stateAt_33 : decode cX9_stateAt 33 = .ok (.iconst 2, 1) := by decide +kernel
theorem dX9_stateAt_34 : decode cX9_stateAt 34 = .ok (.ireturn, 1) := by decide +kernel
theorem dX9_changeBehind_0 : decode cX9_changeBehind 0 = .ok (.aload_n 0, 1) := by decide +kernel
theorem dX9_changeBehind_1 : decode cX9_changeBehind 1 = .ok (.getfield 28, 3) := by decide +kernel
theorem dX9_changeBehind_4 : decode cX9_changeBehind 4 = .ok (.getfield 94, 3) := by decide +kernel
theorem dX9_changeBehind_7 : decode cX9_changeBehind 7 = .ok (.iload_n 1, 1) := by decide +kernel
theorem dX9_changeBehind_8 : decode cX9_changeBehind 8 = .ok (.iload_n 2, 1) := by decide +kernel
theorem dX9_changeBehind_9 : decode cX9_changeBehind 9 = .ok (.aload_n 0, 1) := by decide +kernel
theorem dX9_changeBehind_10 : decode cX9_changeBehind 10 = .ok (.getfield 21, 3) := by decide +kernel
theorem dX9_changeBehind_13 : decode cX9_changeBehind 13 = .ok (.iload_n 1, 1) := by decide +kernel
theorem dX9_changeBehind_14 : decode cX9_changeBehind 14 = .ok (.iload_n 2, 1) := by decide +kernel
theorem dX9_changeBehind_15 : decode cX9_changeBehind 15 = .ok (.iload_n 3, 1) := by decide +kernel
theorem dX9_changeBehind_16 : decode cX9_changeBehind 16 = .ok (.invokevirtual 249, 3) := by decide +kernel
theorem dX9_changeBehind_19 : decode cX9_changeBehind 19 = .ok (.invokevirtual 249, 3) := by decide +kernel
theorem dX9_changeBehind_22 : decode cX9_changeBehind 22 = .ok (.ireturn, 1) := by decide +kernel
