theorem dX10_init_0 : decode cX10_init 0 = .ok (.aload_n 0, 1) := by decide +kernel
theorem dX10_init_1 : decode cX10_init 1 = .ok (.invokespecial 1, 3) := by decide +kernel
theorem dX10_init_4 : decode cX10_init 4 = .ok (.aload_n 0, 1) := by decide +kernel
theorem dX10_init_5 : decode cX10_init 5 = .ok (.bipush 6, 2) := by decide +kernel
theorem dX10_init_7 : decode cX10_init 7 = .ok (.newarray .int, 2) := by decide +kernel
theorem dX10_init_9 : decode cX10_init 9 = .ok (.putfield 7, 3) := by decide +kernel
theorem dX10_init_12 : decode cX10_init 12 = .ok (.aload_n 0, 1) := by decide +kernel
theorem dX10_init_13 : decode cX10_init 13 = .ok (.bipush 6, 2) := by decide +kernel
theorem dX10_init_15 : decode cX10_init 15 = .ok (.newarray .int, 2) := by decide +kernel
theorem dX10_init_17 : decode cX10_init 17 = .ok (.putfield 13, 3) := by decide +kernel
theorem dX10_init_20 : decode cX10_init 20 = .ok (.aload_n 0, 1) := by decide +kernel
theorem dX10_init_21 : decode cX10_init 21 = .ok (.bipush 100, 2) := by decide +kernel
theorem dX10_init_23 : decode cX10_init 23 = .ok (.newarray .int, 2) := by decide +kernel
theorem dX10_init_25 : decode cX10_init 25 = .ok (.putfield 16, 3) := by decide +kernel
theorem dX10_init_28 : decode cX10_init 28 = .ok (.aload_n 0, 1) := by decide +kernel
theorem dX10_init_29 : decode cX10_init 29 = .ok (.bipush 100, 2) := by decide +kernel
theorem dX10_init_31 : decode cX10_init 31 = .ok (.newarray .int, 2) := by decide +kernel
theorem dX10_init_33 : decode cX10_init 33 = .ok (.putfield 19, 3) := by decide +kernel
theorem dX10_init_36 : decode cX10_init 36 = .ok (.aload_n 0, 1) := by decide +kernel
theorem dX10_init_37 : decode cX10_init 37 = .ok (.bipush 100, 2) := by decide +kernel
theorem dX10_init_39 : decode cX10_init 39 = .ok (.newarray .int, 2) := by decide +kernel
theorem dX10_init_41 : decode cX10_init 41 = .ok (.putfield 22, 3) := by decide +kernel
theorem dX10_init_44 : decode cX10_init 44 = .ok (.aload_n 0, 1) := by decide +kernel
theorem dX10_init_45 : decode cX10_init 45 = .ok (.bipush 100, 2) := by decide +kernel
theorem dX10_init_47 : decode cX10_init 47 = .ok (.newarray .int, 2) := by decide +kernel
theorem dX10_init_49 : decode cX10_init 49 = .ok (.putfield 25, 3) := by decide +kernel
theorem dX10_init_52 : decode cX10_init 52 = .ok (.aload_n 0, 1) := by decide +kernel
theorem dX10_init_53 : decode cX10_init 53 = .ok (.bipush 60, 2) := by decide +kernel
theorem dX10_init_55 : decode cX10_init 55 = .ok (.newarray .int, 2) := by decide +kernel
theorem dX10_init_57 : decode cX10_init 57 = .ok (.putfield 28, 3) := by decide +kernel
theorem dX10_init_60 : decode cX10_init 60 = .ok (.aload_n 0, 1) := by decide +kernel
theorem dX10_init_61 : decode cX10_init 61 = .ok (.bipush 60, 2) := by decide +kernel
theorem dX10_init_63 : decode cX10_init 63 = .ok (.newarray .int, 2) := by decide +kernel
theorem dX10_init_65 : decode cX10_init 65 = .ok (.putfield 31, 3) := by decide +kernel
theorem dX10_init_68 : decode cX10_init 68 = .ok (.aload_n 0, 1) := by decide +kernel
theorem dX10_init_69 : decode cX10_init 69 = .ok (.bipush 60, 2) := by decide +kernel
theorem dX10_init_71 : decode cX10_init 71 = .ok (.newarray .int, 2) := by decide +kernel
theorem dX10_init_73 : decode cX10_init 73 = .ok (.putfield 34, 3) := by decide +kernel
theorem dX10_init_76 : decode cX10_init 76 = .ok (.aload_n 0, 1) := by decide +kernel
theorem dX10_init_77 : decode cX10_init 77 = .ok (.bipush 60, 2) := by decide +kernel
theorem dX10_init_79 : decode cX10_init 79 = .ok (.newarray .int, 2) := by decide +kernel
theorem dX10_init_81 : decode cX10_init 81 = .ok (.putfield 37, 3) := by decide +kernel
theorem dX10_init_84 : decode cX10_init 84 = .ok (.aload_n 0, 1) := by decide +kernel
theorem dX10_init_85 : decode cX10_init 85 = .ok (.bipush 60, 2) := by decide +kernel
theorem dX10_init_87 : decode cX10_init 87 = .ok (.newarray .int, 2) := by decide +kernel
theorem dX10_init_89 : decode cX10_init 89 = .ok (.putfield 40, 3) := by decide +kernel
theorem dX10_init_92 : decode cX10_init 92 = .ok (.aload_n 0, 1) := by decide +kernel
theorem dX10_init_93 : decode cX10_init 93 = .ok (.bipush 60, 2) := by decide +kernel
theorem dX10_init_95 : decode cX10_init 95 = .ok (.newarray .boolean, 2) := by decide +kernel
theorem dX10_init_97 : decode cX10_init 97 = .ok (.putfield 43, 3) := by decide +kernel
theorem dX10_init_100 : decode cX10_init 100 = .ok (.aload_n 0, 1) := by decide +kernel
theorem dX10_init_101 : decode cX10_init 101 = .ok (.sipush 240, 3) := by decide +kernel
theorem dX10_init_104 : decode cX10_init 104 = .ok (.newarray .int, 2) := by decide +kernel
theorem dX10_init_106 : decode cX10_init 106 = .ok (.putfield 47, 3) := by decide +kernel
theorem dX10_init_109 : decode cX10_init 109 = .ok (.aload_n 0, 1) := by decide +kernel
theorem dX10_init_110 : decode cX10_init 110 = .ok (.iconst 5, 1) := by decide +kernel
theorem dX10_init_111 : decode cX10_init 111 = .ok (.putfield 50, 3) := by decide +kernel
theorem dX10_init_114 : decode cX10_init 114 = .ok (.aload_n 0, 1) := by decide +kernel
theorem dX10_init_115 : decode cX10_init 115 = .ok (.bipush 10, 2) := by decide +kernel
theorem dX10_init_117 : decode cX10_init 117 = .ok (.putfield 54, 3) := by decide +kernel
theorem dX10_init_120 : decode cX10_init 120 = .ok (.aload_n 0, 1) := by decide +kernel
theorem dX10_init_121 : decode cX10_init 121 = .ok (.bipush 60, 2) := by decide +kernel
theorem dX10_init_123 : decode cX10_init 123 = .ok (.newarray .int, 2) := by decide +kernel
theorem dX10_init_125 : decode cX10_init 125 = .ok (.putfield 57, 3) := by decide +kernel
theorem dX10_init_128 : decode cX10_init 128 = .ok (.aload_n 0, 1) := by decide +kernel
theorem dX10_init_129 : decode cX10_init 129 = .ok (.bipush 60, 2) := by decide +kernel
theorem dX10_init_131 : decode cX10_init 131 = .ok (.newarray .int, 2) := by decide +kernel
theorem dX10_init_133 : decode cX10_init 133 = .ok (.putfield 60, 3) := by decide +kernel
theorem dX10_init_136 : decode cX10_init 136 = .ok (.aload_n 0, 1) := by decide +kernel
theorem dX10_init_137 : decode cX10_init 137 = .ok (.bipush 100, 2) := by decide +kernel
theorem dX10_init_139 : decode cX10_init 139 = .ok (.newarray .int, 2) := by decide +kernel
theorem dX10_init_141 : decode cX10_init 141 = .ok (.putfield 63, 3) := by decide +kernel
theorem dX10_init_144 : decode cX10_init 144 = .ok (.aload_n 0, 1) := by decide +kernel
theorem dX10_init_145 : decode cX10_init 145 = .ok (.bipush 110, 2) := by decide +kernel
theorem dX10_init_147 : decode cX10_init 147 = .ok (.newarray .int, 2) := by decide +kernel
theorem dX10_init_149 : decode cX10_init 149 = .ok (.putfield 66, 3) := by decide +kernel
theorem dX10_init_152 : decode cX10_init 152 = .ok (.aload_n 0, 1) := by decide +kernel
theorem dX10_init_153 : decode cX10_init 153 = .ok (.iconst (-1), 1) := by decide +kernel
theorem dX10_init_154 : decode cX10_init 154 = .ok (.putfield 69, 3) := by decide +kernel
theorem dX10_init_157 : decode cX10_init 157 = .ok (.aload_n 0, 1) := by decide +kernel
theorem dX10_init_158 : decode cX10_init 158 = .ok (.iconst (-1), 1) := by decide +kernel
theorem dX10_init_159 : decode cX10_init 159 = .ok (.putfield 72, 3) := by decide +kernel
theorem dX10_init_162 : decode cX10_init 162 = .ok (.aload_n 0, 1) := by decide +kernel
theorem dX10_init_163 : decode cX10_init 163 = .ok (.iconst 4, 1) := by decide +kernel
theorem dX10_init_164 : decode cX10_init 164 = .ok (.newarray .int, 2) := by decide +kernel
theorem dX10_init_166 : decode cX10_init 166 = .ok (.putfield 75, 3) := by decide +kernel
theorem dX10_init_169 : decode cX10_init 169 = .ok (.aload_n 0, 1) := by decide +kernel
theorem dX10_init_170 : decode cX10_init 170 = .ok (.iconst 4, 1) := by decide +kernel
theorem dX10_init_171 : decode cX10_init 171 = .ok (.newarray .int, 2) := by decide +kernel
theorem dX10_init_173 : decode cX10_init 173 = .ok (.putfield 78, 3) := by decide +kernel
theorem dX10_init_176 : decode cX10_init 176 = .ok (.aload_n 0, 1) := by decide +kernel
theorem dX10_init_177 : decode cX10_init 177 = .ok (.bipush 64, 2) := by decide +kernel
theorem dX10_init_179 : decode cX10_init 179 = .ok (.newarray .int, 2) := by decide +kernel
theorem dX10_init_181 : decode cX10_init 181 = .ok (.putfield 81, 3) := by decide +kernel
theorem dX10_init_184 : decode cX10_init 184 = .ok (.aload_n 0, 1) := by decide +kernel
theorem dX10_init_185 : decode cX10_init 185 = .ok (.bipush 16, 2) := by decide +kernel
theorem dX10_init_187 : decode cX10_init 187 = .ok (.newarray .int, 2) := by decide +kernel
theorem dX10_init_189 : decode cX10_init 189 = .ok (.putfield 84, 3) := by decide +kernel
theorem dX10_init_192 : decode cX10_init 192 = .ok (.return_, 1) := by decide +kernel
theorem dX10_isIn_0 : decode cX10_isIn 0 = .ok (.iload_n 0, 1) := by decide +kernel
theorem dX10_isIn_1 : decode cX10_isIn 1 = .ok (.iload_n 1, 1) := by decide +kernel
theorem dX10_isIn_2 : decode cX10_isIn 2 = .ok (.if_icmp .lt 12, 3) := by decide +kernel
theorem dX10_isIn_5 : decode cX10_isIn 5 = .ok (.iload_n 0, 1) := by decide +kernel
theorem dX10_isIn_6 : decode cX10_isIn 6 = .ok (.iload_n 2, 1) := by decide +kernel
theorem dX10_isIn_7 : decode cX10_isIn 7 = .ok (.if_icmp .gt 7, 3) := by decide +kernel
theorem dX10_isIn_10 : decode cX10_isIn 10 = .ok (.iconst 1, 1) := by decide +kernel
theorem dX10_isIn_11 : decode cX10_isIn 11 = .ok (.goto 4, 3) := by decide +kernel
theorem dX10_isIn_14 : decode cX10_isIn 14 = .ok (.iconst 0, 1) := by decide +kernel
theorem dX10_isIn_15 : decode cX10_isIn 15 = .ok (.ireturn, 1) := by decide +kernel
theorem dX10_post_0 : decode cX10_post 0 = .ok (.iload_n 1, 1) := by decide +kernel
theorem dX10_post_1 : decode cX10_post 1 = .ok (.iconst 0, 1) := by decide +kernel
theorem dX10_post_2 : decode cX10_post 2 = .ok (.bipush 31, 2) := by decide +kernel
theorem dX10_post_4 : decode cX10_post 4 = .ok (.invokestatic 87, 3) := by decide +kernel
theorem dX10_post_7 : decode cX10_post 7 = .ok (.ifCond .eq 22, 3) := by decide +kernel
theorem dX10_post_10 : decode cX10_post 10 = .ok (.iload_n 2, 1) := by decide +kernel
theorem dX10_post_11 : decode cX10_post 11 = .ok (.iconst 0, 1) := by decide +kernel
theorem dX10_post_12 : decode cX10_post 12 = .ok (.bipush 31, 2) := by decide +kernel
theorem dX10_post_14 : decode cX10_post 14 = .ok (.invokestatic 87, 3) := by decide +kernel
theorem dX10_post_17 : decode cX10_post 17 = .ok (.ifCond .eq 12, 3) := by decide +kernel
theorem dX10_post_20 : decode cX10_post 20 = .ok (.aload_n 0, 1) := by decide +kernel
theorem dX10_post_21 : decode cX10_post 21 = .ok (.getfield 91, 3) := by decide +kernel
theorem dX10_post_24 : decode cX10_post 24 = .ok (.bipush 6, 2) := by decide +kernel
theorem dX10_post_26 : decode cX10_post 26 = .ok (.if_icmp .ne 5, 3) := by decide +kernel
theorem dX10_post_29 : decode cX10_post 29 = .ok (.iconst (-1), 1) := by decide +kernel
theorem dX10_post_30 : decode cX10_post 30 = .ok (.ireturn, 1) := by decide +kernel
theorem dX10_post_31 : decode cX10_post 31 = .ok (.aload_n 0, 1) := by decide +kernel
theorem dX10_post_32 : decode cX10_post 32 = .ok (.getfield 7, 3) := by decide +kernel
theorem dX10_post_35 : decode cX10_post 35 = .ok (.aload_n 0, 1) := by decide +kernel
theorem dX10_post_36 : decode cX10_post 36 = .ok (.getfield 91, 3) := by decide +kernel
theorem dX10_post_39 : decode cX10_post 39 = .ok (.iload_n 1, 1) := by decide +kernel
theorem dX10_post_40 : decode cX10_post 40 = .ok (.iastore, 1) := by decide +kernel
theorem dX10_post_41 : decode cX10_post 41 = .ok (.aload_n 0, 1) := by decide +kernel
theorem dX10_post_42 : decode cX10_post 42 = .ok (.getfield 13, 3) := by decide +kernel
theorem dX10_post_45 : decode cX10_post 45 = .ok (.aload_n 0, 1) := by decide +kernel
theorem dX10_post_46 : decode cX10_post 46 = .ok (.getfield 91, 3) := by decide +kernel
theorem dX10_post_49 : decode cX10_post 49 = .ok (.iload_n 2, 1) := by decide +kernel
theorem dX10_post_50 : decode cX10_post 50 = .ok (.iastore, 1) := by decide +kernel
theorem dX10_post_51 : decode cX10_post 51 = .ok (.aload_n 0, 1) := by decide +kernel
theorem dX10_post_52 : decode cX10_post 52 = .ok (.dup, 1) := by decide +kernel
theorem dX10_post_53 : decode cX10_post 53 = .ok (.getfield 91, 3) := by decide +kernel
theorem dX10_post_56 : decode cX10_post 56 = .ok (.iconst 1, 1) := by decide +kernel
theorem dX10_post_57 : decode cX10_post 57 = .ok (.iadd, 1) := by decide +kernel
theorem dX10_post_58 : decode cX10_post 58 = .ok (.putfield 91, 3) := by decide +kernel
theorem dX10_post_61 : decode cX10_post 61 = .ok (.aload_n 0, 1) := by decide +kernel
theorem dX10_post_62 : decode cX10_post 62 = .ok (.getfield 91, 3) := by decide +kernel
theorem dX10_post_65 : decode cX10_post 65 = .ok (.iconst 1, 1) := by decide +kernel
theorem dX10_post_66 : decode cX10_post 66 = .ok (.isub, 1) := by decide +kernel
theorem dX10_post_67 : decode cX10_post 67 = .ok (.ireturn, 1) := by decide +kernel
theorem dX10_isPost_0 : decode cX10_isPost 0 = .ok (.iload_n 1, 1) := by decide +kernel
theorem dX10_isPost_1 : decode cX10_isPost 1 = .ok (.iconst 0, 1) := by decide +kernel
theorem dX10_isPost_2 : decode cX10_isPost 2 = .ok (.aload_n 0, 1) := by decide +kernel
theorem dX10_isPost_3 : decode cX10_isPost 3 = .ok (.getfield 91, 3) := by decide +kernel
theorem dX10_isPost_6 : decode cX10_isPost 6 = .ok (.iconst 1, 1) := by decide +kernel
theorem dX10_isPost_7 : decode cX10_isPost 7 = .ok (.isub, 1) := by decide +kernel
theorem dX10_isPost_8 : decode cX10_isPost 8 = .ok (.invokestatic 87, 3) := by decide +kernel
theorem dX10_isPost_11 : decode cX10_isPost 11 = .ok (.ireturn, 1) := by decide +kernel
theorem dX10_isSpan_0 : decode cX10_isSpan 0 = .ok (.iload_n 0, 1) := by decide +kernel
theorem dX10_isSpan_1 : decode cX10_isSpan 1 = .ok (.iconst 0, 1) := by decide +kernel
theorem dX10_isSpan_2 : decode cX10_isSpan 2 = .ok (.sipush 9999, 3) := by decide +kernel
theorem dX10_isSpan_5 : decode cX10_isSpan 5 = .ok (.invokestatic 87, 3) := by decide +kernel
theorem dX10_isSpan_8 : decode cX10_isSpan 8 = .ok (.ifCond .eq 18, 3) := by decide +kernel
theorem dX10_isSpan_11 : decode cX10_isSpan 11 = .ok (.iload_n 1, 1) := by decide +kernel
theorem dX10_isSpan_12 : decode cX10_isSpan 12 = .ok (.iload_n 0, 1) := by decide +kernel
theorem dX10_isSpan_13 : decode cX10_isSpan 13 = .ok (.sipush 9999, 3) := by decide +kernel
theorem dX10_isSpan_16 : decode cX10_isSpan 16 = .ok (.invokestatic 87, 3) := by decide +kernel
theorem dX10_isSpan_19 : decode cX10_isSpan 19 = .ok (.ifCond .eq 7, 3) := by decide +kernel
theorem dX10_isSpan_22 : decode cX10_isSpan 22 = .ok (.iconst 1, 1) := by decide +kernel
theorem dX10_isSpan_23 : decode cX10_isSpan 23 = .ok (.goto 4, 3) := by decide +kernel
theorem dX10_isSpan_26 : decode cX10_isSpan 26 = .ok (.iconst 0, 1) := by decide +kernel
theorem dX10_isSpan_27 : decode cX10_isSpan 27 = .ok (.ireturn, 1) := by decide +kernel
theorem dX10_listened_0 : decode cX10_listened 0 = .ok (.aload_n 0, 1) := by decide +kernel
theorem dX10_listened_1 : decode cX10_listened 1 = .ok (.iload_n 1, 1) := by decide +kernel
theorem dX10_listened_2 : decode cX10_listened 2 = .ok (.invokevirtual 94, 3) := by decide +kernel
theorem dX10_listened_5 : decode cX10_listened 5 = .ok (.ifCond .eq 31, 3) := by decide +kernel
theorem dX10_listened_8 : decode cX10_listened 8 = .ok (.iload_n 2, 1) := by decide +kernel
theorem dX10_listened_9 : decode cX10_listened 9 = .ok (.iconst 0, 1) := by decide +kernel
theorem dX10_listened_10 : decode cX10_listened 10 = .ok (.bipush 15, 2) := by decide +kernel
theorem dX10_listened_12 : decode cX10_listened 12 = .ok (.invokestatic 87, 3) := by decide +kernel
theorem dX10_listened_15 : decode cX10_listened 15 = .ok (.ifCond .eq 21, 3) := by decide +kernel
theorem dX10_listened_18 : decode cX10_listened 18 = .ok (.iload_n 3, 1) := by decide +kernel
theorem dX10_listened_19 : decode cX10_listened 19 = .ok (.iload 4, 2) := by decide +kernel
theorem dX10_listened_21 : decode cX10_listened 21 = .ok (.invokestatic 98, 3) := by decide +kernel
theorem dX10_listened_24 : decode cX10_listened 24 = .ok (.ifCond .eq 12, 3) := by decide +kernel
theorem dX10_listened_27 : decode cX10_listened 27 = .ok (.aload_n 0, 1) := by decide +kernel
theorem dX10_listened_28 : decode cX10_listened 28 = .ok (.getfield 102, 3) := by decide +kernel
theorem dX10_listened_31 : decode cX10_listened 31 = .ok (.bipush 100, 2) := by decide +kernel
theorem dX10_listened_33 : decode cX10_listened 33 = .ok (.if_icmp .ne 5, 3) := by decide +kernel
theorem dX10_listened_36 : decode cX10_listened 36 = .ok (.iconst (-1), 1) := by decide +kernel
theorem dX10_listened_37 : decode cX10_listened 37 = .ok (.ireturn, 1) := by decide +kernel
theorem dX10_listened_38 : decode cX10_listened 38 = .ok (.aload_n 0, 1) := by decide +kernel
theorem dX10_listened_39 : decode cX10_listened 39 = .ok (.getfield 16, 3) := by decide +kernel
theorem dX10_listened_42 : decode cX10_listened 42 = .ok (.aload_n 0, 1) := by decide +kernel
theorem dX10_listened_43 : decode cX10_listened 43 = .ok (.getfield 102, 3) := by decide +kernel
theorem dX10_listened_46 : decode cX10_listened 46 = .ok (.iload_n 1, 1) := by decide +kernel
theorem dX10_listened_47 : decode cX10_listened 47 = .ok (.iastore, 1) := by decide +kernel
theorem dX10_listened_48 : decode cX10_listened 48 = .ok (.aload_n 0, 1) := by decide +kernel
theorem dX10_listened_49 : decode cX10_listened 49 = .ok (.getfield 19, 3) := by decide +kernel
theorem dX10_listened_52 : decode cX10_listened 52 = .ok (.aload_n 0, 1) := by decide +kernel
theorem dX10_listened_53 : decode cX10_listened 53 = .ok (.getfield 102, 3) := by decide +kernel
theorem dX10_listened_56 : decode cX10_listened 56 = .ok (.iload_n 2, 1) := by decide +kernel
theorem dX10_listened_57 : decode cX10_listened 57 = .ok (.iastore, 1) := by decide +kernel
theorem dX10_listened_58 : decode cX10_listened 58 = .ok (.aload_n 0, 1) := by decide +kernel
theorem dX10_listened_59 : decode cX10_listened 59 = .ok (.getfield 22, 3) := by decide +kernel
theorem dX10_listened_62 : decode cX10_listened 62 = .ok (.aload_n 0, 1) := by decide +kernel
theorem dX10_listened_63 : decode cX10_listened 63 = .ok (.getfield 102, 3) := by decide +kernel
theorem dX10_listened_66 : decode cX10_listened 66 = .ok (.iload_n 3, 1) := by decide +kernel
theorem dX10_listened_67 : decode cX10_listened 67 = .ok (.iastore, 1) := by decide +kernel
theorem dX10_listened_68 : decode cX10_listened 68 = .ok (.aload_n 0, 1) := by decide +kernel
theorem dX10_listened_69 : decode cX10_listened 69 = .ok (.getfield 25, 3) := by decide +kernel
theorem dX10_listened_72 : decode cX10_listened 72 = .ok (.aload_n 0, 1) := by decide +kernel
theorem dX10_listened_73 : decode cX10_listened 73 = .ok (.getfield 102, 3) := by decide +kernel
theorem dX10_listened_76 : decode cX10_listened 76 = .ok (.iload 4, 2) := by decide +kernel
theorem dX10_listened_78 : decode cX10_listened 78 = .ok (.iastore, 1) := by decide +kernel
theorem dX10_listened_79 : decode cX10_listened 79 = .ok (.aload_n 0, 1) := by decide +kernel
theorem dX10_listened_80 : decode cX10_listened 80 = .ok (.dup, 1) := by decide +kernel
theorem dX10_listened_81 : decode cX10_listened 81 = .ok (.getfield 102, 3) := by decide +kernel
theorem dX10_listened_84 : decode cX10_listened 84 = .ok (.iconst 1, 1) := by decide +kernel
theorem dX10_listened_85 : decode cX10_listened 85 = .ok (.iadd, 1) := by decide +kernel
theorem dX10_listened_86 : decode cX10_listened 86 = .ok (.putfield 102, 3) := by decide +kernel
theorem dX10_listened_89 : decode cX10_listened 89 = .ok (.aload_n 0, 1) := by decide +kernel
theorem dX10_listened_90 : decode cX10_listened 90 = .ok (.getfield 102, 3) := by decide +kernel
theorem dX10_listened_93 : decode cX10_listened 93 = .ok (.ireturn, 1) := by decide +kernel
theorem dX10_wasListened_0 : decode cX10_wasListened 0 = .ok (.iconst 0, 1) := by decide +kernel
theorem dX10_wasListened_1 : decode cX10_wasListened 1 = .ok (.istore 4, 2) := by decide +kernel
theorem dX10_wasListened_3 : decode cX10_wasListened 3 = .ok (.iload 4, 2) := by decide +kernel
theorem dX10_wasListened_5 : decode cX10_wasListened 5 = .ok (.aload_n 0, 1) := by decide +kernel
theorem dX10_wasListened_6 : decode cX10_wasListened 6 = .ok (.getfield 102, 3) := by decide +kernel
theorem dX10_wasListened_9 : decode cX10_wasListened 9 = .ok (.if_icmp .ge 58, 3) := by decide +kernel
theorem dX10_wasListened_12 : decode cX10_wasListened 12 = .ok (.iload_n 1, 1) := by decide +kernel
theorem dX10_wasListened_13 : decode cX10_wasListened 13 = .ok (.ifCond .lt 14, 3) := by decide +kernel
theorem dX10_wasListened_16 : decode cX10_wasListened 16 = .ok (.aload_n 0, 1) := by decide +kernel
theorem dX10_wasListened_17 : decode cX10_wasListened 17 = .ok (.getfield 16, 3) := by decide +kernel
theorem dX10_wasListened_20 : decode cX10_wasListened 20 = .ok (.iload 4, 2) := by decide +kernel
theorem dX10_wasListened_22 : decode cX10_wasListened 22 = .ok (.iaload, 1) := by decide +kernel
theorem dX10_wasListened_23 : decode cX10_wasListened 23 = .ok (.iload_n 1, 1) := by decide +kernel
theorem dX10_wasListened_24 : decode cX10_wasListened 24 = .ok (.if_icmp .ne 37, 3) := by decide +kernel
theorem dX10_wasListened_27 : decode cX10_wasListened 27 = .ok (.aload_n 0, 1) := by decide +kernel
theorem dX10_wasListened_28 : decode cX10_wasListened 28 = .ok (.getfield 19, 3) := by decide +kernel
theorem dX10_wasListened_31 : decode cX10_wasListened 31 = .ok (.iload 4, 2) := by decide +kernel
theorem dX10_wasListened_33 : decode cX10_wasListened 33 = .ok (.iaload, 1) := by decide +kernel
theorem dX10_wasListened_34 : decode cX10_wasListened 34 = .ok (.iload_n 2, 1) := by decide +kernel
theorem dX10_wasListened_35 : decode cX10_wasListened 35 = .ok (.if_icmp .ne 26, 3) := by decide +kernel
theorem dX10_wasListened_38 : decode cX10_wasListened 38 = .ok (.iload_n 3, 1) := by decide +kernel
theorem dX10_wasListened_39 : decode cX10_wasListened 39 = .ok (.aload_n 0, 1) := by decide +kernel
theorem dX10_wasListened_40 : decode cX10_wasListened 40 = .ok (.getfield 22, 3) := by decide +kernel
theorem dX10_wasListened_43 : decode cX10_wasListened 43 = .ok (.iload 4, 2) := by decide +kernel
theorem dX10_wasListened_45 : decode cX10_wasListened 45 = .ok (.iaload, 1) := by decide +kernel
theorem dX10_wasListened_46 : decode cX10_wasListened 46 = .ok (.aload_n 0, 1) := by decide +kernel
theorem dX10_wasListened_47 : decode cX10_wasListened 47 = .ok (.getfield 25, 3) := by decide +kernel
theorem dX10_wasListened_50 : decode cX10_wasListened 50 = .ok (.iload 4, 2) := by decide +kernel
theorem dX10_wasListened_52 : decode cX10_wasListened 52 = .ok (.iaload, 1) := by decide +kernel
theorem dX10_wasListened_53 : decode cX10_wasListened 53 = .ok (.invokestatic 87, 3) := by decide +kernel
theorem dX10_wasListened_56 : decode cX10_wasListened 56 = .ok (.ifCond .eq 5, 3) := by decide +kernel
theorem dX10_wasListened_59 : decode cX10_wasListened 59 = .ok (.iconst 1, 1) := by decide +kernel
theorem dX10_wasListened_60 : decode cX10_wasListened 60 = .ok (.ireturn, 1) := by decide +kernel
theorem dX10_wasListened_61 : decode cX10_wasListened 61 = .ok (.iinc 4 1, 3) := by decide +kernel
theorem dX10_wasListened_64 : decode cX10_wasListened 64 = .ok (.goto (-61), 3) := by decide +kernel
theorem dX10_wasListened_67 : decode cX10_wasListened 67 = .ok (.iconst 0, 1) := by decide +kernel
theorem dX10_wasListened_68 : decode cX10_wasListened 68 = .ok (.ireturn, 1) := by decide +kernel
theorem dX10_mark_0 : decode cX10_mark 0 = .ok (.aload_n 0, 1) := by decide +kernel
theorem dX10_mark_1 : decode cX10_mark 1 = .ok (.iload_n 1, 1) := by decide +kernel
theorem dX10_mark_2 : decode cX10_mark 2 = .ok (.invokevirtual 94, 3) := by decide +kernel
theorem dX10_mark_5 : decode cX10_mark 5 = .ok (.ifCond .eq 43, 3) := by decide +kernel
theorem dX10_mark_8 : decode cX10_mark 8 = .ok (.iload_n 2, 1) := by decide +kernel
theorem dX10_mark_9 : decode cX10_mark 9 = .ok (.iconst 0, 1) := by decide +kernel
theorem dX10_mark_10 : decode cX10_mark 10 = .ok (.bipush 15, 2) := by decide +kernel
theorem dX10_mark_12 : decode cX10_mark 12 = .ok (.invokestatic 87, 3) := by decide +kernel
theorem dX10_mark_15 : decode cX10_mark 15 = .ok (.ifCond .eq 33, 3) := by decide +kernel
theorem dX10_mark_18 : decode cX10_mark 18 = .ok (.iload_n 3, 1) := by decide +kernel
theorem dX10_mark_19 : decode cX10_mark 19 = .ok (.iload 4, 2) := by decide +kernel
theorem dX10_mark_21 : decode cX10_mark 21 = .ok (.invokestatic 98, 3) := by decide +kernel
theorem dX10_mark_24 : decode cX10_mark 24 = .ok (.ifCond .eq 24, 3) := by decide +kernel
theorem dX10_mark_27 : decode cX10_mark 27 = .ok (.iload 5, 2) := by decide +kernel
theorem dX10_mark_29 : decode cX10_mark 29 = .ok (.iconst 0, 1) := by decide +kernel
theorem dX10_mark_30 : decode cX10_mark 30 = .ok (.sipush 999, 3) := by decide +kernel
theorem dX10_mark_33 : decode cX10_mark 33 = .ok (.invokestatic 87, 3) := by decide +kernel
theorem dX10_mark_36 : decode cX10_mark 36 = .ok (.ifCond .eq 12, 3) := by decide +kernel
theorem dX10_mark_39 : decode cX10_mark 39 = .ok (.aload_n 0, 1) := by decide +kernel
theorem dX10_mark_40 : decode cX10_mark 40 = .ok (.getfield 105, 3) := by decide +kernel
theorem dX10_mark_43 : decode cX10_mark 43 = .ok (.bipush 60, 2) := by decide +kernel
theorem dX10_mark_45 : decode cX10_mark 45 = .ok (.if_icmp .ne 5, 3) := by decide +kernel
theorem dX10_mark_48 : decode cX10_mark 48 = .ok (.iconst (-1), 1) := by decide +kernel
theorem dX10_mark_49 : decode cX10_mark 49 = .ok (.ireturn, 1) := by decide +kernel
theorem dX10_mark_50 : decode cX10_mark 50 = .ok (.iload_n 3, 1) := by decide +kernel
theorem dX10_mark_51 : decode cX10_mark 51 = .ok (.istore 6, 2) := by decide +kernel
theorem dX10_mark_53 : decode cX10_mark 53 = .ok (.iload 6, 2) := by decide +kernel
theorem dX10_mark_55 : decode cX10_mark 55 = .ok (.iload 4, 2) := by decide +kernel
theorem dX10_mark_57 : decode cX10_mark 57 = .ok (.if_icmp .gt 22, 3) := by decide +kernel
theorem dX10_mark_60 : decode cX10_mark 60 = .ok (.aload_n 0, 1) := by decide +kernel
theorem dX10_mark_61 : decode cX10_mark 61 = .ok (.iload_n 1, 1) := by decide +kernel
theorem dX10_mark_62 : decode cX10_mark 62 = .ok (.iload_n 2, 1) := by decide +kernel
theorem dX10_mark_63 : decode cX10_mark 63 = .ok (.iload 6, 2) := by decide +kernel
theorem dX10_mark_65 : decode cX10_mark 65 = .ok (.invokevirtual 108, 3) := by decide +kernel
theorem dX10_mark_68 : decode cX10_mark 68 = .ok (.ifCond .ne 5, 3) := by decide +kernel
theorem dX10_mark_71 : decode cX10_mark 71 = .ok (.iconst (-1), 1) := by decide +kernel
theorem dX10_mark_72 : decode cX10_mark 72 = .ok (.ireturn, 1) := by decide +kernel
theorem dX10_mark_73 : decode cX10_mark 73 = .ok (.iinc 6 1, 3) := by decide +kernel
theorem dX10_mark_76 : decode cX10_mark 76 = .ok (.goto (-23), 3) := by decide +kernel
theorem dX10_mark_79 : decode cX10_mark 79 = .ok (.aload_n 0, 1) := by decide +kernel
theorem dX10_mark_80 : decode cX10_mark 80 = .ok (.getfield 28, 3) := by decide +kernel
theorem dX10_mark_83 : decode cX10_mark 83 = .ok (.aload_n 0, 1) := by decide +kernel
theorem dX10_mark_84 : decode cX10_mark 84 = .ok (.getfield 105, 3) := by decide +kernel
theorem dX10_mark_87 : decode cX10_mark 87 = .ok (.iload_n 1, 1) := by decide +kernel
theorem dX10_mark_88 : decode cX10_mark 88 = .ok (.iastore, 1) := by decide +kernel
theorem dX10_mark_89 : decode cX10_mark 89 = .ok (.aload_n 0, 1) := by decide +kernel
theorem dX10_mark_90 : decode cX10_mark 90 = .ok (.getfield 31, 3) := by decide +kernel
theorem dX10_mark_93 : decode cX10_mark 93 = .ok (.aload_n 0, 1) := by decide +kernel
theorem dX10_mark_94 : decode cX10_mark 94 = .ok (.getfield 105, 3) := by decide +kernel
theorem dX10_mark_97 : decode cX10_mark 97 = .ok (.iload_n 2, 1) := by decide +kernel
theorem dX10_mark_98 : decode cX10_mark 98 = .ok (.iastore, 1) := by decide +kernel
theorem dX10_mark_99 : decode cX10_mark 99 = .ok (.aload_n 0, 1) := by decide +kernel
theorem dX10_mark_100 : decode cX10_mark 100 = .ok (.getfield 34, 3) := by decide +kernel
theorem dX10_mark_103 : decode cX10_mark 103 = .ok (.aload_n 0, 1) := by decide +kernel
theorem dX10_mark_104 : decode cX10_mark 104 = .ok (.getfield 105, 3) := by decide +kernel
theorem dX10_mark_107 : decode cX10_mark 107 = .ok (.iload_n 3, 1) := by decide +kernel
theorem dX10_mark_108 : decode cX10_mark 108 = .ok (.iastore, 1) := by decide +kernel
theorem dX10_mark_109 : decode cX10_mark 109 = .ok (.aload_n 0, 1) := by decide +kernel
theorem dX10_mark_110 : decode cX10_mark 110 = .ok (.getfield 37, 3) := by decide +kernel
theorem dX10_mark_113 : decode cX10_mark 113 = .ok (.aload_n 0, 1) := by decide +kernel
theorem dX10_mark_114 : decode cX10_mark 114 = .ok (.getfield 105, 3) := by decide +kernel
theorem dX10_mark_117 : decode cX10_mark 117 = .ok (.iload 4, 2) := by decide +kernel
theorem dX10_mark_119 : decode cX10_mark 119 = .ok (.iastore, 1) := by decide +kernel
theorem dX10_mark_120 : decode cX10_mark 120 = .ok (.aload_n 0, 1) := by decide +kernel
theorem dX10_mark_121 : decode cX10_mark 121 = .ok (.getfield 40, 3) := by decide +kernel
theorem dX10_mark_124 : decode cX10_mark 124 = .ok (.aload_n 0, 1) := by decide +kernel
theorem dX10_mark_125 : decode cX10_mark 125 = .ok (.getfield 105, 3) := by decide +kernel
theorem dX10_mark_128 : decode cX10_mark 128 = .ok (.iload 5, 2) := by decide +kernel
theorem dX10_mark_130 : decode cX10_mark 130 = .ok (.iastore, 1) := by decide +kernel
theorem dX10_mark_131 : decode cX10_mark 131 = .ok (.aload_n 0, 1) := by decide +kernel
theorem dX10_mark_132 : decode cX10_mark 132 = .ok (.dup, 1) := by decide +kernel
theorem dX10_mark_133 : decode cX10_mark 133 = .ok (.getfield 105, 3) := by decide +kernel
theorem dX10_mark_136 : decode cX10_mark 136 = .ok (.iconst 1, 1) := by decide +kernel
theorem dX10_mark_137 : decode cX10_mark 137 = .ok (.iadd, 1) := by decide +kernel
theorem dX10_mark_138 : decode cX10_mark 138 = .ok (.putfield 105, 3) := by decide +kernel
theorem dX10_mark_141 : decode cX10_mark 141 = .ok (.aload_n 0, 1) := by decide +kernel
theorem dX10_mark_142 : decode cX10_mark 142 = .ok (.getfield 105, 3) := by decide +kernel
theorem dX10_mark_145 : decode cX10_mark 145 = .ok (.iconst 1, 1) := by decide +kernel
theorem dX10_mark_146 : decode cX10_mark 146 = .ok (.isub, 1) := by decide +kernel
theorem dX10_mark_147 : decode cX10_mark 147 = .ok (.ireturn, 1) := by decide +kernel
theorem dX10_isWay_0 : decode cX10_isWay 0 = .ok (.iload_n 0, 1) := by decide +kernel
theorem dX10_isWay_1 : decode cX10_isWay 1 = .ok (.bipush (-100), 2) := by decide +kernel
theorem dX10_isWay_3 : decode cX10_isWay 3 = .ok (.bipush 100, 2) := by decide +kernel
theorem dX10_isWay_5 : decode cX10_isWay 5 = .ok (.invokestatic 87, 3) := by decide +kernel
theorem dX10_isWay_8 : decode cX10_isWay 8 = .ok (.ifCond .eq 26, 3) := by decide +kernel
theorem dX10_isWay_11 : decode cX10_isWay 11 = .ok (.iload_n 1, 1) := by decide +kernel
theorem dX10_isWay_12 : decode cX10_isWay 12 = .ok (.bipush (-100), 2) := by decide +kernel
theorem dX10_isWay_14 : decode cX10_isWay 14 = .ok (.bipush 100, 2) := by decide +kernel
theorem dX10_isWay_16 : decode cX10_isWay 16 = .ok (.invokestatic 87, 3) := by decide +kernel
theorem dX10_isWay_19 : decode cX10_isWay 19 = .ok (.ifCond .eq 15, 3) := by decide +kernel
theorem dX10_isWay_22 : decode cX10_isWay 22 = .ok (.iload_n 0, 1) := by decide +kernel
theorem dX10_isWay_23 : decode cX10_isWay 23 = .ok (.ifCond .ne 7, 3) := by decide +kernel
theorem dX10_isWay_26 : decode cX10_isWay 26 = .ok (.iload_n 1, 1) := by decide +kernel
theorem dX10_isWay_27 : decode cX10_isWay 27 = .ok (.ifCond .eq 7, 3) := by decide +kernel
theorem dX10_isWay_30 : decode cX10_isWay 30 = .ok (.iconst 1, 1) := by decide +kernel
theorem dX10_isWay_31 : decode cX10_isWay 31 = .ok (.goto 4, 3) := by decide +kernel
theorem dX10_isWay_34 : decode cX10_isWay 34 = .ok (.iconst 0, 1) := by decide +kernel
theorem dX10_isWay_35 : decode cX10_isWay 35 = .ok (.ireturn, 1) := by decide +kernel
theorem dX10_wedge_0 : decode cX10_wedge 0 = .ok (.iload_n 1, 1) := by decide +kernel
theorem dX10_wedge_1 : decode cX10_wedge 1 = .ok (.iconst 0, 1) := by decide +kernel
theorem dX10_wedge_2 : decode cX10_wedge 2 = .ok (.aload_n 0, 1) := by decide +kernel
theorem dX10_wedge_3 : decode cX10_wedge 3 = .ok (.getfield 105, 3) := by decide +kernel
theorem dX10_wedge_6 : decode cX10_wedge 6 = .ok (.iconst 1, 1) := by decide +kernel
theorem dX10_wedge_7 : decode cX10_wedge 7 = .ok (.isub, 1) := by decide +kernel
theorem dX10_wedge_8 : decode cX10_wedge 8 = .ok (.invokestatic 87, 3) := by decide +kernel
theorem dX10_wedge_11 : decode cX10_wedge 11 = .ok (.ifCond .eq 33, 3) := by decide +kernel
theorem dX10_wedge_14 : decode cX10_wedge 14 = .ok (.iload_n 2, 1) := by decide +kernel
theorem dX10_wedge_15 : decode cX10_wedge 15 = .ok (.iload_n 3, 1) := by decide +kernel
theorem dX10_wedge_16 : decode cX10_wedge 16 = .ok (.invokestatic 111, 3) := by decide +kernel
theorem dX10_wedge_19 : decode cX10_wedge 19 = .ok (.ifCond .eq 25, 3) := by decide +kernel
theorem dX10_wedge_22 : decode cX10_wedge 22 = .ok (.iload 4, 2) := by decide +kernel
theorem dX10_wedge_24 : decode cX10_wedge 24 = .ok (.iload 5, 2) := by decide +kernel
theorem dX10_wedge_26 : decode cX10_wedge 26 = .ok (.invokestatic 111, 3) := by decide +kernel
theorem dX10_wedge_29 : decode cX10_wedge 29 = .ok (.ifCond .eq 15, 3) := by decide +kernel
theorem dX10_wedge_32 : decode cX10_wedge 32 = .ok (.iload_n 2, 1) := by decide +kernel
theorem dX10_wedge_33 : decode cX10_wedge 33 = .ok (.iload 5, 2) := by decide +kernel
theorem dX10_wedge_35 : decode cX10_wedge 35 = .ok (.imul, 1) := by decide +kernel
theorem dX10_wedge_36 : decode cX10_wedge 36 = .ok (.iload_n 3, 1) := by decide +kernel
theorem dX10_wedge_37 : decode cX10_wedge 37 = .ok (.iload 4, 2) := by decide +kernel
theorem dX10_wedge_39 : decode cX10_wedge 39 = .ok (.imul, 1) := by decide +kernel
theorem dX10_wedge_40 : decode cX10_wedge 40 = .ok (.isub, 1) := by decide +kernel
theorem dX10_wedge_41 : decode cX10_wedge 41 = .ok (.ifCond .gt 5, 3) := by decide +kernel
theorem dX10_wedge_44 : decode cX10_wedge 44 = .ok (.iconst 0, 1) := by decide +kernel
theorem dX10_wedge_45 : decode cX10_wedge 45 = .ok (.ireturn, 1) := by decide +kernel
theorem dX10_wedge_46 : decode cX10_wedge 46 = .ok (.aload_n 0, 1) := by decide +kernel
theorem dX10_wedge_47 : decode cX10_wedge 47 = .ok (.getfield 43, 3) := by decide +kernel
theorem dX10_wedge_50 : decode cX10_wedge 50 = .ok (.iload_n 1, 1) := by decide +kernel
theorem dX10_wedge_51 : decode cX10_wedge 51 = .ok (.iconst 1, 1) := by decide +kernel
theorem dX10_wedge_52 : decode cX10_wedge 52 = .ok (.bastore, 1) := by decide +kernel
theorem dX10_wedge_53 : decode cX10_wedge 53 = .ok (.aload_n 0, 1) := by decide +kernel
theorem dX10_wedge_54 : decode cX10_wedge 54 = .ok (.getfield 47, 3) := by decide +kernel
theorem dX10_wedge_57 : decode cX10_wedge 57 = .ok (.iconst 4, 1) := by decide +kernel
theorem dX10_wedge_58 : decode cX10_wedge 58 = .ok (.iload_n 1, 1) := by decide +kernel
theorem dX10_wedge_59 : decode cX10_wedge 59 = .ok (.imul, 1) := by decide +kernel
theorem dX10_wedge_60 : decode cX10_wedge 60 = .ok (.iload_n 2, 1) := by decide +kernel
theorem dX10_wedge_61 : decode cX10_wedge 61 = .ok (.iastore, 1) := by decide +kernel
theorem dX10_wedge_62 : decode cX10_wedge 62 = .ok (.aload_n 0, 1) := by decide +kernel
theorem dX10_wedge_63 : decode cX10_wedge 63 = .ok (.getfield 47, 3) := by decide +kernel
theorem dX10_wedge_66 : decode cX10_wedge 66 = .ok (.iconst 4, 1) := by decide +kernel
theorem dX10_wedge_67 : decode cX10_wedge 67 = .ok (.iload_n 1, 1) := by decide +kernel
theorem dX10_wedge_68 : decode cX10_wedge 68 = .ok (.imul, 1) := by decide +kernel
theorem dX10_wedge_69 : decode cX10_wedge 69 = .ok (.iconst 1, 1) := by decide +kernel
theorem dX10_wedge_70 : decode cX10_wedge 70 = .ok (.iadd, 1) := by decide +kernel
theorem dX10_wedge_71 : decode cX10_wedge 71 = .ok (.iload_n 3, 1) := by decide +kernel
theorem dX10_wedge_72 : decode cX10_wedge 72 = .ok (.iastore, 1) := by decide +kernel
theorem dX10_wedge_73 : decode cX10_wedge 73 = .ok (.aload_n 0, 1) := by decide +kernel
theorem dX10_wedge_74 : decode cX10_wedge 74 = .ok (.getfield 47, 3) := by decide +kernel
theorem dX10_wedge_77 : decode cX10_wedge 77 = .ok (.iconst 4, 1) := by decide +kernel
theorem dX10_wedge_78 : decode cX10_wedge 78 = .ok (.iload_n 1, 1) := by decide +kernel
theorem dX10_wedge_79 : decode cX10_wedge 79 = .ok (.imul, 1) := by decide +kernel
theorem dX10_wedge_80 : decode cX10_wedge 80 = .ok (.iconst 2, 1) := by decide +kernel
theorem dX10_wedge_81 : decode cX10_wedge 81 = .ok (.iadd, 1) := by decide +kernel
theorem dX10_wedge_82 : decode cX10_wedge 82 = .ok (.iload 4, 2) := by decide +kernel
theorem dX10_wedge_84 : decode cX10_wedge 84 = .ok (.iastore, 1) := by decide +kernel
theorem dX10_wedge_85 : decode cX10_wedge 85 = .ok (.aload_n 0, 1) := by decide +kernel
theorem dX10_wedge_86 : decode cX10_wedge 86 = .ok (.getfield 47, 3) := by decide +kernel
theorem dX10_wedge_89 : decode cX10_wedge 89 = .ok (.iconst 4, 1) := by decide +kernel
theorem dX10_wedge_90 : decode cX10_wedge 90 = .ok (.iload_n 1, 1) := by decide +kernel
theorem dX10_wedge_91 : decode cX10_wedge 91 = .ok (.imul, 1) := by decide +kernel
theorem dX10_wedge_92 : decode cX10_wedge 92 = .ok (.iconst 3, 1) := by decide +kernel
theorem dX10_wedge_93 : decode cX10_wedge 93 = .ok (.iadd, 1) := by decide +kernel
theorem dX10_wedge_94 : decode cX10_wedge 94 = .ok (.iload 5, 2) := by decide +kernel
theorem dX10_wedge_96 : decode cX10_wedge 96 = .ok (.iastore, 1) := by decide +kernel
theorem dX10_wedge_97 : decode cX10_wedge 97 = .ok (.iconst 1, 1) := by decide +kernel
theorem dX10_wedge_98 : decode cX10_wedge 98 = .ok (.ireturn, 1) := by decide +kernel
theorem dX10_joins_0 : decode cX10_joins 0 = .ok (.iload_n 1, 1) := by decide +kernel
theorem dX10_joins_1 : decode cX10_joins 1 = .ok (.iconst 0, 1) := by decide +kernel
theorem dX10_joins_2 : decode cX10_joins 2 = .ok (.bipush 99, 2) := by decide +kernel
theorem dX10_joins_4 : decode cX10_joins 4 = .ok (.invokestatic 87, 3) := by decide +kernel
theorem dX10_joins_7 : decode cX10_joins 7 = .ok (.ifCond .eq 14, 3) := by decide +kernel
theorem dX10_joins_10 : decode cX10_joins 10 = .ok (.iload_n 2, 1) := by decide +kernel
theorem dX10_joins_11 : decode cX10_joins 11 = .ok (.iconst 0, 1) := by decide +kernel
theorem dX10_joins_12 : decode cX10_joins 12 = .ok (.sipush 999, 3) := by decide +kernel
theorem dX10_joins_15 : decode cX10_joins 15 = .ok (.invokestatic 87, 3) := by decide +kernel
theorem dX10_joins_18 : decode cX10_joins 18 = .ok (.ifCond .ne 5, 3) := by decide +kernel
theorem dX10_joins_21 : decode cX10_joins 21 = .ok (.iconst 0, 1) := by decide +kernel
theorem dX10_joins_22 : decode cX10_joins 22 = .ok (.ireturn, 1) := by decide +kernel
theorem dX10_joins_23 : decode cX10_joins 23 = .ok (.aload_n 0, 1) := by decide +kernel
theorem dX10_joins_24 : decode cX10_joins 24 = .ok (.iload_n 1, 1) := by decide +kernel
theorem dX10_joins_25 : decode cX10_joins 25 = .ok (.putfield 50, 3) := by decide +kernel
theorem dX10_joins_28 : decode cX10_joins 28 = .ok (.aload_n 0, 1) := by decide +kernel
theorem dX10_joins_29 : decode cX10_joins 29 = .ok (.iload_n 2, 1) := by decide +kernel
theorem dX10_joins_30 : decode cX10_joins 30 = .ok (.putfield 54, 3) := by decide +kernel
theorem dX10_joins_33 : decode cX10_joins 33 = .ok (.iconst 1, 1) := by decide +kernel
theorem dX10_joins_34 : decode cX10_joins 34 = .ok (.ireturn, 1) := by decide +kernel
theorem dX10_isJoin_0 : decode cX10_isJoin 0 = .ok (.aload_n 0, 1) := by decide +kernel
theorem dX10_isJoin_1 : decode cX10_isJoin 1 = .ok (.getfield 40, 3) := by decide +kernel
theorem dX10_isJoin_4 : decode cX10_isJoin 4 = .ok (.iload_n 1, 1) := by decide +kernel
theorem dX10_isJoin_5 : decode cX10_isJoin 5 = .ok (.iaload, 1) := by decide +kernel
theorem dX10_isJoin_6 : decode cX10_isJoin 6 = .ok (.aload_n 0, 1) := by decide +kernel
theorem dX10_isJoin_7 : decode cX10_isJoin 7 = .ok (.getfield 40, 3) := by decide +kernel
theorem dX10_isJoin_10 : decode cX10_isJoin 10 = .ok (.iload_n 2, 1) := by decide +kernel
theorem dX10_isJoin_11 : decode cX10_isJoin 11 = .ok (.iaload, 1) := by decide +kernel
theorem dX10_isJoin_12 : decode cX10_isJoin 12 = .ok (.if_icmp .le 19, 3) := by decide +kernel
theorem dX10_isJoin_15 : decode cX10_isJoin 15 = .ok (.aload_n 0, 1) := by decide +kernel
theorem dX10_isJoin_16 : decode cX10_isJoin 16 = .ok (.getfield 40, 3) := by decide +kernel
theorem dX10_isJoin_19 : decode cX10_isJoin 19 = .ok (.iload_n 1, 1) := by decide +kernel
theorem dX10_isJoin_20 : decode cX10_isJoin 20 = .ok (.iaload, 1) := by decide +kernel
theorem dX10_isJoin_21 : decode cX10_isJoin 21 = .ok (.aload_n 0, 1) := by decide +kernel
theorem dX10_isJoin_22 : decode cX10_isJoin 22 = .ok (.getfield 40, 3) := by decide +kernel
theorem dX10_isJoin_25 : decode cX10_isJoin 25 = .ok (.iload_n 2, 1) := by decide +kernel
theorem dX10_isJoin_26 : decode cX10_isJoin 26 = .ok (.iaload, 1) := by decide +kernel
theorem dX10_isJoin_27 : decode cX10_isJoin 27 = .ok (.isub, 1) := by decide +kernel
theorem dX10_isJoin_28 : decode cX10_isJoin 28 = .ok (.goto 16, 3) := by decide +kernel
theorem dX10_isJoin_31 : decode cX10_isJoin 31 = .ok (.aload_n 0, 1) := by decide +kernel
theorem dX10_isJoin_32 : decode cX10_isJoin 32 = .ok (.getfield 40, 3) := by decide +kernel
theorem dX10_isJoin_35 : decode cX10_isJoin 35 = .ok (.iload_n 2, 1) := by decide +kernel
theorem dX10_isJoin_36 : decode cX10_isJoin 36 = .ok (.iaload, 1) := by decide +kernel
theorem dX10_isJoin_37 : decode cX10_isJoin 37 = .ok (.aload_n 0, 1) := by decide +kernel
theorem dX10_isJoin_38 : decode cX10_isJoin 38 = .ok (.getfield 40, 3) := by decide +kernel
theorem dX10_isJoin_41 : decode cX10_isJoin 41 = .ok (.iload_n 1, 1) := by decide +kernel
theorem dX10_isJoin_42 : decode cX10_isJoin 42 = .ok (.iaload, 1) := by decide +kernel
theorem dX10_isJoin_43 : decode cX10_isJoin 43 = .ok (.isub, 1) := by decide +kernel
theorem dX10_isJoin_44 : decode cX10_isJoin 44 = .ok (.istore_n 3, 1) := by decide +kernel
theorem dX10_isJoin_45 : decode cX10_isJoin 45 = .ok (.aload_n 0, 1) := by decide +kernel
theorem dX10_isJoin_46 : decode cX10_isJoin 46 = .ok (.getfield 31, 3) := by decide +kernel
theorem dX10_isJoin_49 : decode cX10_isJoin 49 = .ok (.iload_n 1, 1) := by decide +kernel
theorem dX10_isJoin_50 : decode cX10_isJoin 50 = .ok (.iaload, 1) := by decide +kernel
theorem dX10_isJoin_51 : decode cX10_isJoin 51 = .ok (.aload_n 0, 1) := by decide +kernel
theorem dX10_isJoin_52 : decode cX10_isJoin 52 = .ok (.getfield 31, 3) := by decide +kernel
theorem dX10_isJoin_55 : decode cX10_isJoin 55 = .ok (.iload_n 2, 1) := by decide +kernel
theorem dX10_isJoin_56 : decode cX10_isJoin 56 = .ok (.iaload, 1) := by decide +kernel
theorem dX10_isJoin_57 : decode cX10_isJoin 57 = .ok (.if_icmp .ne 55, 3) := by decide +kernel
theorem dX10_isJoin_60 : decode cX10_isJoin 60 = .ok (.iload_n 3, 1) := by decide +kernel
theorem dX10_isJoin_61 : decode cX10_isJoin 61 = .ok (.aload_n 0, 1) := by decide +kernel
theorem dX10_isJoin_62 : decode cX10_isJoin 62 = .ok (.getfield 50, 3) := by decide +kernel
theorem dX10_isJoin_65 : decode cX10_isJoin 65 = .ok (.if_icmp .gt 47, 3) := by decide +kernel
theorem dX10_isJoin_68 : decode cX10_isJoin 68 = .ok (.aload_n 0, 1) := by decide +kernel
theorem dX10_isJoin_69 : decode cX10_isJoin 69 = .ok (.getfield 34, 3) := by decide +kernel
theorem dX10_isJoin_72 : decode cX10_isJoin 72 = .ok (.iload_n 2, 1) := by decide +kernel
theorem dX10_isJoin_73 : decode cX10_isJoin 73 = .ok (.iaload, 1) := by decide +kernel
theorem dX10_isJoin_74 : decode cX10_isJoin 74 = .ok (.aload_n 0, 1) := by decide +kernel
theorem dX10_isJoin_75 : decode cX10_isJoin 75 = .ok (.getfield 37, 3) := by decide +kernel
theorem dX10_isJoin_78 : decode cX10_isJoin 78 = .ok (.iload_n 1, 1) := by decide +kernel
theorem dX10_isJoin_79 : decode cX10_isJoin 79 = .ok (.iaload, 1) := by decide +kernel
theorem dX10_isJoin_80 : decode cX10_isJoin 80 = .ok (.isub, 1) := by decide +kernel
theorem dX10_isJoin_81 : decode cX10_isJoin 81 = .ok (.aload_n 0, 1) := by decide +kernel
theorem dX10_isJoin_82 : decode cX10_isJoin 82 = .ok (.getfield 54, 3) := by decide +kernel
theorem dX10_isJoin_85 : decode cX10_isJoin 85 = .ok (.if_icmp .gt 27, 3) := by decide +kernel
theorem dX10_isJoin_88 : decode cX10_isJoin 88 = .ok (.aload_n 0, 1) := by decide +kernel
theorem dX10_isJoin_89 : decode cX10_isJoin 89 = .ok (.getfield 34, 3) := by decide +kernel
theorem dX10_isJoin_92 : decode cX10_isJoin 92 = .ok (.iload_n 1, 1) := by decide +kernel
theorem dX10_isJoin_93 : decode cX10_isJoin 93 = .ok (.iaload, 1) := by decide +kernel
theorem dX10_isJoin_94 : decode cX10_isJoin 94 = .ok (.aload_n 0, 1) := by decide +kernel
theorem dX10_isJoin_95 : decode cX10_isJoin 95 = .ok (.getfield 37, 3) := by decide +kernel
theorem dX10_isJoin_98 : decode cX10_isJoin 98 = .ok (.iload_n 2, 1) := by decide +kernel
theorem dX10_isJoin_99 : decode cX10_isJoin 99 = .ok (.iaload, 1) := by decide +kernel
theorem dX10_isJoin_100 : decode cX10_isJoin 100 = .ok (.isub, 1) := by decide +kernel
theorem dX10_isJoin_101 : decode cX10_isJoin 101 = .ok (.aload_n 0, 1) := by decide +kernel
theorem dX10_isJoin_102 : decode cX10_isJoin 102 = .ok (.getfield 54, 3) := by decide +kernel
theorem dX10_isJoin_105 : decode cX10_isJoin 105 = .ok (.if_icmp .gt 7, 3) := by decide +kernel
theorem dX10_isJoin_108 : decode cX10_isJoin 108 = .ok (.iconst 1, 1) := by decide +kernel
theorem dX10_isJoin_109 : decode cX10_isJoin 109 = .ok (.goto 4, 3) := by decide +kernel
theorem dX10_isJoin_112 : decode cX10_isJoin 112 = .ok (.iconst 0, 1) := by decide +kernel
theorem dX10_isJoin_113 : decode cX10_isJoin 113 = .ok (.ireturn, 1) := by decide +kernel
theorem dX10_join_0 : decode cX10_join 0 = .ok (.aload_n 0, 1) := by decide +kernel
theorem dX10_join_1 : decode cX10_join 1 = .ok (.iconst 0, 1) := by decide +kernel
theorem dX10_join_2 : decode cX10_join 2 = .ok (.putfield 114, 3) := by decide +kernel
theorem dX10_join_5 : decode cX10_join 5 = .ok (.iconst 0, 1) := by decide +kernel
theorem dX10_join_6 : decode cX10_join 6 = .ok (.istore_n 1, 1) := by decide +kernel
theorem dX10_join_7 : decode cX10_join 7 = .ok (.iload_n 1, 1) := by decide +kernel
theorem dX10_join_8 : decode cX10_join 8 = .ok (.aload_n 0, 1) := by decide +kernel
theorem dX10_join_9 : decode cX10_join 9 = .ok (.getfield 105, 3) := by decide +kernel
theorem dX10_join_12 : decode cX10_join 12 = .ok (.if_icmp .ge 16, 3) := by decide +kernel
theorem dX10_join_15 : decode cX10_join 15 = .ok (.aload_n 0, 1) := by decide +kernel
theorem dX10_join_16 : decode cX10_join 16 = .ok (.getfield 57, 3) := by decide +kernel
theorem dX10_join_19 : decode cX10_join 19 = .ok (.iload_n 1, 1) := by decide +kernel
theorem dX10_join_20 : decode cX10_join 20 = .ok (.iconst (-1), 1) := by decide +kernel
theorem dX10_join_21 : decode cX10_join 21 = .ok (.iastore, 1) := by decide +kernel
theorem dX10_join_22 : decode cX10_join 22 = .ok (.iinc 1 1, 3) := by decide +kernel
theorem dX10_join_25 : decode cX10_join 25 = .ok (.goto (-18), 3) := by decide +kernel
theorem dX10_join_28 : decode cX10_join 28 = .ok (.iconst 0, 1) := by decide +kernel
theorem dX10_join_29 : decode cX10_join 29 = .ok (.istore_n 1, 1) := by decide +kernel
theorem dX10_join_30 : decode cX10_join 30 = .ok (.iload_n 1, 1) := by decide +kernel
theorem dX10_join_31 : decode cX10_join 31 = .ok (.aload_n 0, 1) := by decide +kernel
theorem dX10_join_32 : decode cX10_join 32 = .ok (.getfield 105, 3) := by decide +kernel
theorem dX10_join_35 : decode cX10_join 35 = .ok (.if_icmp .ge 69, 3) := by decide +kernel
theorem dX10_join_38 : decode cX10_join 38 = .ok (.aload_n 0, 1) := by decide +kernel
theorem dX10_join_39 : decode cX10_join 39 = .ok (.getfield 57, 3) := by decide +kernel
theorem dX10_join_42 : decode cX10_join 42 = .ok (.iload_n 1, 1) := by decide +kernel
theorem dX10_join_43 : decode cX10_join 43 = .ok (.iaload, 1) := by decide +kernel
theorem dX10_join_44 : decode cX10_join 44 = .ok (.ifCond .lt 6, 3) := by decide +kernel
theorem dX10_join_47 : decode cX10_join 47 = .ok (.goto 51, 3) := by decide +kernel
theorem dX10_join_50 : decode cX10_join 50 = .ok (.aload_n 0, 1) := by decide +kernel
theorem dX10_join_51 : decode cX10_join 51 = .ok (.getfield 57, 3) := by decide +kernel
theorem dX10_join_54 : decode cX10_join 54 = .ok (.iload_n 1, 1) := by decide +kernel
theorem dX10_join_55 : decode cX10_join 55 = .ok (.aload_n 0, 1) := by decide +kernel
theorem dX10_join_56 : decode cX10_join 56 = .ok (.getfield 114, 3) := by decide +kernel
theorem dX10_join_59 : decode cX10_join 59 = .ok (.iastore, 1) := by decide +kernel
theorem dX10_join_60 : decode cX10_join 60 = .ok (.aload_n 0, 1) := by decide +kernel
theorem dX10_join_61 : decode cX10_join 61 = .ok (.getfield 60, 3) := by decide +kernel
theorem dX10_join_64 : decode cX10_join 64 = .ok (.aload_n 0, 1) := by decide +kernel
theorem dX10_join_65 : decode cX10_join 65 = .ok (.getfield 114, 3) := by decide +kernel
theorem dX10_join_68 : decode cX10_join 68 = .ok (.iload_n 1, 1) := by decide +kernel
theorem dX10_join_69 : decode cX10_join 69 = .ok (.iastore, 1) := by decide +kernel
theorem dX10_join_70 : decode cX10_join 70 = .ok (.iconst 1, 1) := by decide +kernel
theorem dX10_join_71 : decode cX10_join 71 = .ok (.istore_n 2, 1) := by decide +kernel
theorem dX10_join_72 : decode cX10_join 72 = .ok (.iload_n 2, 1) := by decide +kernel
theorem dX10_join_73 : decode cX10_join 73 = .ok (.ifCond .eq 15, 3) := by decide +kernel
theorem dX10_join_76 : decode cX10_join 76 = .ok (.aload_n 0, 1) := by decide +kernel
theorem dX10_join_77 : decode cX10_join 77 = .ok (.aload_n 0, 1) := by decide +kernel
theorem dX10_join_78 : decode cX10_join 78 = .ok (.getfield 114, 3) := by decide +kernel
theorem dX10_join_81 : decode cX10_join 81 = .ok (.invokevirtual 117, 3) := by decide +kernel
theorem dX10_join_84 : decode cX10_join 84 = .ok (.istore_n 2, 1) := by decide +kernel
theorem dX10_join_85 : decode cX10_join 85 = .ok (.goto (-13), 3) := by decide +kernel
theorem dX10_join_88 : decode cX10_join 88 = .ok (.aload_n 0, 1) := by decide +kernel
theorem dX10_join_89 : decode cX10_join 89 = .ok (.dup, 1) := by decide +kernel
theorem dX10_join_90 : decode cX10_join 90 = .ok (.getfield 114, 3) := by decide +kernel
theorem dX10_join_93 : decode cX10_join 93 = .ok (.iconst 1, 1) := by decide +kernel
theorem dX10_join_94 : decode cX10_join 94 = .ok (.iadd, 1) := by decide +kernel
theorem dX10_join_95 : decode cX10_join 95 = .ok (.putfield 114, 3) := by decide +kernel
theorem dX10_join_98 : decode cX10_join 98 = .ok (.iinc 1 1, 3) := by decide +kernel
theorem dX10_join_101 : decode cX10_join 101 = .ok (.goto (-71), 3) := by decide +kernel
theorem dX10_join_104 : decode cX10_join 104 = .ok (.return_, 1) := by decide +kernel
theorem dX10_spreads_0 : decode cX10_spreads 0 = .ok (.iconst 0, 1) := by decide +kernel
theorem dX10_spreads_1 : decode cX10_spreads 1 = .ok (.istore_n 2, 1) := by decide +kernel
theorem dX10_spreads_2 : decode cX10_spreads 2 = .ok (.iconst 0, 1) := by decide +kernel
theorem dX10_spreads_3 : decode cX10_spreads 3 = .ok (.istore_n 3, 1) := by decide +kernel
theorem dX10_spreads_4 : decode cX10_spreads 4 = .ok (.iload_n 3, 1) := by decide +kernel
theorem dX10_spreads_5 : decode cX10_spreads 5 = .ok (.aload_n 0, 1) := by decide +kernel
theorem dX10_spreads_6 : decode cX10_spreads 6 = .ok (.getfield 105, 3) := by decide +kernel
theorem dX10_spreads_9 : decode cX10_spreads 9 = .ok (.if_icmp .ge 73, 3) := by decide +kernel
theorem dX10_spreads_12 : decode cX10_spreads 12 = .ok (.aload_n 0, 1) := by decide +kernel
theorem dX10_spreads_13 : decode cX10_spreads 13 = .ok (.getfield 57, 3) := by decide +kernel
theorem dX10_spreads_16 : decode cX10_spreads 16 = .ok (.iload_n 3, 1) := by decide +kernel
theorem dX10_spreads_17 : decode cX10_spreads 17 = .ok (.iaload, 1) := by decide +kernel
theorem dX10_spreads_18 : decode cX10_spreads 18 = .ok (.iload_n 1, 1) := by decide +kernel
theorem dX10_spreads_19 : decode cX10_spreads 19 = .ok (.if_icmp .eq 6, 3) := by decide +kernel
theorem dX10_spreads_22 : decode cX10_spreads 22 = .ok (.goto 54, 3) := by decide +kernel
theorem dX10_spreads_25 : decode cX10_spreads 25 = .ok (.iconst 0, 1) := by decide +kernel
theorem dX10_spreads_26 : decode cX10_spreads 26 = .ok (.istore 4, 2) := by decide +kernel
theorem dX10_spreads_28 : decode cX10_spreads 28 = .ok (.iload 4, 2) := by decide +kernel
theorem dX10_spreads_30 : decode cX10_spreads 30 = .ok (.aload_n 0, 1) := by decide +kernel
theorem dX10_spreads_31 : decode cX10_spreads 31 = .ok (.getfield 105, 3) := by decide +kernel
theorem dX10_spreads_34 : decode cX10_spreads 34 = .ok (.if_icmp .ge 42, 3) := by decide +kernel
theorem dX10_spreads_37 : decode cX10_spreads 37 = .ok (.aload_n 0, 1) := by decide +kernel
theorem dX10_spreads_38 : decode cX10_spreads 38 = .ok (.getfield 57, 3) := by decide +kernel
theorem dX10_spreads_41 : decode cX10_spreads 41 = .ok (.iload 4, 2) := by decide +kernel
theorem dX10_spreads_43 : decode cX10_spreads 43 = .ok (.iaload, 1) := by decide +kernel
theorem dX10_spreads_44 : decode cX10_spreads 44 = .ok (.ifCond .ge 26, 3) := by decide +kernel
theorem dX10_spreads_47 : decode cX10_spreads 47 = .ok (.aload_n 0, 1) := by decide +kernel
theorem dX10_spreads_48 : decode cX10_spreads 48 = .ok (.iload_n 3, 1) := by decide +kernel
theorem dX10_spreads_49 : decode cX10_spreads 49 = .ok (.iload 4, 2) := by decide +kernel
theorem dX10_spreads_51 : decode cX10_spreads 51 = .ok (.invokevirtual 120, 3) := by decide +kernel
theorem dX10_spreads_54 : decode cX10_spreads 54 = .ok (.ifCond .ne 6, 3) := by decide +kernel
theorem dX10_spreads_57 : decode cX10_spreads 57 = .ok (.goto 13, 3) := by decide +kernel
theorem dX10_spreads_60 : decode cX10_spreads 60 = .ok (.aload_n 0, 1) := by decide +kernel
theorem dX10_spreads_61 : decode cX10_spreads 61 = .ok (.getfield 57, 3) := by decide +kernel
theorem dX10_spreads_64 : decode cX10_spreads 64 = .ok (.iload 4, 2) := by decide +kernel
theorem dX10_spreads_66 : decode cX10_spreads 66 = .ok (.iload_n 1, 1) := by decide +kernel
theorem dX10_spreads_67 : decode cX10_spreads 67 = .ok (.iastore, 1) := by decide +kernel
theorem dX10_spreads_68 : decode cX10_spreads 68 = .ok (.iconst 1, 1) := by decide +kernel
theorem dX10_spreads_69 : decode cX10_spreads 69 = .ok (.istore_n 2, 1) := by decide +kernel
theorem dX10_spreads_70 : decode cX10_spreads 70 = .ok (.iinc 4 1, 3) := by decide +kernel
theorem dX10_spreads_73 : decode cX10_spreads 73 = .ok (.goto (-45), 3) := by decide +kernel
theorem dX10_spreads_76 : decode cX10_spreads 76 = .ok (.iinc 3 1, 3) := by decide +kernel
theorem dX10_spreads_79 : decode cX10_spreads 79 = .ok (.goto (-75), 3) := by decide +kernel
theorem dX10_spreads_82 : decode cX10_spreads 82 = .ok (.iload_n 2, 1) := by decide +kernel
theorem dX10_spreads_83 : decode cX10_spreads 83 = .ok (.ireturn, 1) := by decide +kernel
theorem dX10_senders_0 : decode cX10_senders 0 = .ok (.aload_n 0, 1) := by decide +kernel
theorem dX10_senders_1 : decode cX10_senders 1 = .ok (.invokevirtual 123, 3) := by decide +kernel
theorem dX10_senders_4 : decode cX10_senders 4 = .ok (.aload_n 0, 1) := by decide +kernel
theorem dX10_senders_5 : decode cX10_senders 5 = .ok (.getfield 114, 3) := by decide +kernel
theorem dX10_senders_8 : decode cX10_senders 8 = .ok (.ireturn, 1) := by decide +kernel
theorem dX10_senderOf_0 : decode cX10_senderOf 0 = .ok (.iload_n 1, 1) := by decide +kernel
theorem dX10_senderOf_1 : decode cX10_senderOf 1 = .ok (.iconst 0, 1) := by decide +kernel
theorem dX10_senderOf_2 : decode cX10_senderOf 2 = .ok (.aload_n 0, 1) := by decide +kernel
theorem dX10_senderOf_3 : decode cX10_senderOf 3 = .ok (.getfield 105, 3) := by decide +kernel
theorem dX10_senderOf_6 : decode cX10_senderOf 6 = .ok (.iconst 1, 1) := by decide +kernel
theorem dX10_senderOf_7 : decode cX10_senderOf 7 = .ok (.isub, 1) := by decide +kernel
theorem dX10_senderOf_8 : decode cX10_senderOf 8 = .ok (.invokestatic 87, 3) := by decide +kernel
theorem dX10_senderOf_11 : decode cX10_senderOf 11 = .ok (.ifCond .ne 5, 3) := by decide +kernel
theorem dX10_senderOf_14 : decode cX10_senderOf 14 = .ok (.iconst (-1), 1) := by decide +kernel
theorem dX10_senderOf_15 : decode cX10_senderOf 15 = .ok (.ireturn, 1) := by decide +kernel
theorem dX10_senderOf_16 : decode cX10_senderOf 16 = .ok (.aload_n 0, 1) := by decide +kernel
theorem dX10_senderOf_17 : decode cX10_senderOf 17 = .ok (.invokevirtual 123, 3) := by decide +kernel
theorem dX10_senderOf_20 : decode cX10_senderOf 20 = .ok (.aload_n 0, 1) := by decide +kernel
theorem dX10_senderOf_21 : decode cX10_senderOf 21 = .ok (.getfield 57, 3) := by decide +kernel
theorem dX10_senderOf_24 : decode cX10_senderOf 24 = .ok (.iload_n 1, 1) := by decide +kernel
theorem dX10_senderOf_25 : decode cX10_senderOf 25 = .ok (.iaload, 1) := by decide +kernel
theorem dX10_senderOf_26 : decode cX10_senderOf 26 = .ok (.ireturn, 1) := by decide +kernel
theorem dX10_isSender_0 : decode cX10_isSender 0 = .ok (.aload_n 0, 1) := by decide +kernel
theorem dX10_isSender_1 : decode cX10_isSender 1 = .ok (.invokevirtual 123, 3) := by decide +kernel
theorem dX10_isSender_4 : decode cX10_isSender 4 = .ok (.iload_n 1, 1) := by decide +kernel
theorem dX10_isSender_5 : decode cX10_isSender 5 = .ok (.iconst 0, 1) := by decide +kernel
theorem dX10_isSender_6 : decode cX10_isSender 6 = .ok (.aload_n 0, 1) := by decide +kernel
theorem dX10_isSender_7 : decode cX10_isSender 7 = .ok (.getfield 114, 3) := by decide +kernel
theorem dX10_isSender_10 : decode cX10_isSender 10 = .ok (.iconst 1, 1) := by decide +kernel
theorem dX10_isSender_11 : decode cX10_isSender 11 = .ok (.isub, 1) := by decide +kernel
theorem dX10_isSender_12 : decode cX10_isSender 12 = .ok (.invokestatic 87, 3) := by decide +kernel
theorem dX10_isSender_15 : decode cX10_isSender 15 = .ok (.ireturn, 1) := by decide +kernel
theorem dX10_liesIn_0 : decode cX10_liesIn 0 = .ok (.iload_n 2, 1) := by decide +kernel
theorem dX10_liesIn_1 : decode cX10_liesIn 1 = .ok (.aload_n 0, 1) := by decide +kernel
theorem dX10_liesIn_2 : decode cX10_liesIn 2 = .ok (.getfield 7, 3) := by decide +kernel
theorem dX10_liesIn_5 : decode cX10_liesIn 5 = .ok (.aload_n 0, 1) := by decide +kernel
theorem dX10_liesIn_6 : decode cX10_liesIn 6 = .ok (.getfield 28, 3) := by decide +kernel
theorem dX10_liesIn_9 : decode cX10_liesIn 9 = .ok (.iload_n 1, 1) := by decide +kernel
theorem dX10_liesIn_10 : decode cX10_liesIn 10 = .ok (.iaload, 1) := by decide +kernel
theorem dX10_liesIn_11 : decode cX10_liesIn 11 = .ok (.iaload, 1) := by decide +kernel
theorem dX10_liesIn_12 : decode cX10_liesIn 12 = .ok (.isub, 1) := by decide +kernel
theorem dX10_liesIn_13 : decode cX10_liesIn 13 = .ok (.istore 4, 2) := by decide +kernel
theorem dX10_liesIn_15 : decode cX10_liesIn 15 = .ok (.iload_n 3, 1) := by decide +kernel
theorem dX10_liesIn_16 : decode cX10_liesIn 16 = .ok (.aload_n 0, 1) := by decide +kernel
theorem dX10_liesIn_17 : decode cX10_liesIn 17 = .ok (.getfield 13, 3) := by decide +kernel
theorem dX10_liesIn_20 : decode cX10_liesIn 20 = .ok (.aload_n 0, 1) := by decide +kernel
theorem dX10_liesIn_21 : decode cX10_liesIn 21 = .ok (.getfield 28, 3) := by decide +kernel
theorem dX10_liesIn_24 : decode cX10_liesIn 24 = .ok (.iload_n 1, 1) := by decide +kernel
theorem dX10_liesIn_25 : decode cX10_liesIn 25 = .ok (.iaload, 1) := by decide +kernel
theorem dX10_liesIn_26 : decode cX10_liesIn 26 = .ok (.iaload, 1) := by decide +kernel
theorem dX10_liesIn_27 : decode cX10_liesIn 27 = .ok (.isub, 1) := by decide +kernel
theorem dX10_liesIn_28 : decode cX10_liesIn 28 = .ok (.istore 5, 2) := by decide +kernel
theorem dX10_liesIn_30 : decode cX10_liesIn 30 = .ok (.aload_n 0, 1) := by decide +kernel
theorem dX10_liesIn_31 : decode cX10_liesIn 31 = .ok (.getfield 47, 3) := by decide +kernel
theorem dX10_liesIn_34 : decode cX10_liesIn 34 = .ok (.iconst 4, 1) := by decide +kernel
theorem dX10_liesIn_35 : decode cX10_liesIn 35 = .ok (.iload_n 1, 1) := by decide +kernel
theorem dX10_liesIn_36 : decode cX10_liesIn 36 = .ok (.imul, 1) := by decide +kernel
theorem dX10_liesIn_37 : decode cX10_liesIn 37 = .ok (.iaload, 1) := by decide +kernel
theorem dX10_liesIn_38 : decode cX10_liesIn 38 = .ok (.iload 5, 2) := by decide +kernel
theorem dX10_liesIn_40 : decode cX10_liesIn 40 = .ok (.imul, 1) := by decide +kernel
theorem dX10_liesIn_41 : decode cX10_liesIn 41 = .ok (.aload_n 0, 1) := by decide +kernel
theorem dX10_liesIn_42 : decode cX10_liesIn 42 = .ok (.getfield 47, 3) := by decide +kernel
theorem dX10_liesIn_45 : decode cX10_liesIn 45 = .ok (.iconst 4, 1) := by decide +kernel
theorem dX10_liesIn_46 : decode cX10_liesIn 46 = .ok (.iload_n 1, 1) := by decide +kernel
theorem dX10_liesIn_47 : decode cX10_liesIn 47 = .ok (.imul, 1) := by decide +kernel
theorem dX10_liesIn_48 : decode cX10_liesIn 48 = .ok (.iconst 1, 1) := by decide +kernel
theorem dX10_liesIn_49 : decode cX10_liesIn 49 = .ok (.iadd, 1) := by decide +kernel
theorem dX10_liesIn_50 : decode cX10_liesIn 50 = .ok (.iaload, 1) := by decide +kernel
theorem dX10_liesIn_51 : decode cX10_liesIn 51 = .ok (.iload 4, 2) := by decide +kernel
theorem dX10_liesIn_53 : decode cX10_liesIn 53 = .ok (.imul, 1) := by decide +kernel
theorem dX10_liesIn_54 : decode cX10_liesIn 54 = .ok (.isub, 1) := by decide +kernel
theorem dX10_liesIn_55 : decode cX10_liesIn 55 = .ok (.ifCond .lt 37, 3) := by decide +kernel
theorem dX10_liesIn_58 : decode cX10_liesIn 58 = .ok (.iload 4, 2) := by decide +kernel
theorem dX10_liesIn_60 : decode cX10_liesIn 60 = .ok (.aload_n 0, 1) := by decide +kernel
theorem dX10_liesIn_61 : decode cX10_liesIn 61 = .ok (.getfield 47, 3) := by decide +kernel
theorem dX10_liesIn_64 : decode cX10_liesIn 64 = .ok (.iconst 4, 1) := by decide +kernel
theorem dX10_liesIn_65 : decode cX10_liesIn 65 = .ok (.iload_n 1, 1) := by decide +kernel
theorem dX10_liesIn_66 : decode cX10_liesIn 66 = .ok (.imul, 1) := by decide +kernel
theorem dX10_liesIn_67 : decode cX10_liesIn 67 = .ok (.iconst 3, 1) := by decide +kernel
theorem dX10_liesIn_68 : decode cX10_liesIn 68 = .ok (.iadd, 1) := by decide +kernel
theorem dX10_liesIn_69 : decode cX10_liesIn 69 = .ok (.iaload, 1) := by decide +kernel
theorem dX10_liesIn_70 : decode cX10_liesIn 70 = .ok (.imul, 1) := by decide +kernel
theorem dX10_liesIn_71 : decode cX10_liesIn 71 = .ok (.iload 5, 2) := by decide +kernel
theorem dX10_liesIn_73 : decode cX10_liesIn 73 = .ok (.aload_n 0, 1) := by decide +kernel
theorem dX10_liesIn_74 : decode cX10_liesIn 74 = .ok (.getfield 47, 3) := by decide +kernel
theorem dX10_liesIn_77 : decode cX10_liesIn 77 = .ok (.iconst 4, 1) := by decide +kernel
theorem dX10_liesIn_78 : decode cX10_liesIn 78 = .ok (.iload_n 1, 1) := by decide +kernel
theorem dX10_liesIn_79 : decode cX10_liesIn 79 = .ok (.imul, 1) := by decide +kernel
theorem dX10_liesIn_80 : decode cX10_liesIn 80 = .ok (.iconst 2, 1) := by decide +kernel
theorem dX10_liesIn_81 : decode cX10_liesIn 81 = .ok (.iadd, 1) := by decide +kernel
theorem dX10_liesIn_82 : decode cX10_liesIn 82 = .ok (.iaload, 1) := by decide +kernel
theorem dX10_liesIn_83 : decode cX10_liesIn 83 = .ok (.imul, 1) := by decide +kernel
theorem dX10_liesIn_84 : decode cX10_liesIn 84 = .ok (.isub, 1) := by decide +kernel
theorem dX10_liesIn_85 : decode cX10_liesIn 85 = .ok (.ifCond .lt 7, 3) := by decide +kernel
theorem dX10_liesIn_88 : decode cX10_liesIn 88 = .ok (.iconst 1, 1) := by decide +kernel
theorem dX10_liesIn_89 : decode cX10_liesIn 89 = .ok (.goto 4, 3) := by decide +kernel
theorem dX10_liesIn_92 : decode cX10_liesIn 92 = .ok (.iconst 0, 1) := by decide +kernel
theorem dX10_liesIn_93 : decode cX10_liesIn 93 = .ok (.ireturn, 1) := by decide +kernel
theorem dX10_isPlace_0 : decode cX10_isPlace 0 = .ok (.iconst 0, 1) := by decide +kernel
theorem dX10_isPlace_1 : decode cX10_isPlace 1 = .ok (.istore_n 3, 1) := by decide +kernel
theorem dX10_isPlace_2 : decode cX10_isPlace 2 = .ok (.iload_n 3, 1) := by decide +kernel
theorem dX10_isPlace_3 : decode cX10_isPlace 3 = .ok (.aload_n 0, 1) := by decide +kernel
theorem dX10_isPlace_4 : decode cX10_isPlace 4 = .ok (.getfield 105, 3) := by decide +kernel
theorem dX10_isPlace_7 : decode cX10_isPlace 7 = .ok (.if_icmp .ge 46, 3) := by decide +kernel
theorem dX10_isPlace_10 : decode cX10_isPlace 10 = .ok (.aload_n 0, 1) := by decide +kernel
theorem dX10_isPlace_11 : decode cX10_isPlace 11 = .ok (.getfield 57, 3) := by decide +kernel
theorem dX10_isPlace_14 : decode cX10_isPlace 14 = .ok (.iload_n 3, 1) := by decide +kernel
theorem dX10_isPlace_15 : decode cX10_isPlace 15 = .ok (.iaload, 1) := by decide +kernel
theorem dX10_isPlace_16 : decode cX10_isPlace 16 = .ok (.iload_n 1, 1) := by decide +kernel
theorem dX10_isPlace_17 : decode cX10_isPlace 17 = .ok (.if_icmp .ne 30, 3) := by decide +kernel
theorem dX10_isPlace_20 : decode cX10_isPlace 20 = .ok (.aload_n 0, 1) := by decide +kernel
theorem dX10_isPlace_21 : decode cX10_isPlace 21 = .ok (.getfield 43, 3) := by decide +kernel
theorem dX10_isPlace_24 : decode cX10_isPlace 24 = .ok (.iload_n 3, 1) := by decide +kernel
theorem dX10_isPlace_25 : decode cX10_isPlace 25 = .ok (.baload, 1) := by decide +kernel
theorem dX10_isPlace_26 : decode cX10_isPlace 26 = .ok (.ifCond .eq 21, 3) := by decide +kernel
theorem dX10_isPlace_29 : decode cX10_isPlace 29 = .ok (.aload_n 0, 1) := by decide +kernel
theorem dX10_isPlace_30 : decode cX10_isPlace 30 = .ok (.iload_n 3, 1) := by decide +kernel
theorem dX10_isPlace_31 : decode cX10_isPlace 31 = .ok (.iload_n 2, 1) := by decide +kernel
theorem dX10_isPlace_32 : decode cX10_isPlace 32 = .ok (.bipush 32, 2) := by decide +kernel
theorem dX10_isPlace_34 : decode cX10_isPlace 34 = .ok (.irem, 1) := by decide +kernel
theorem dX10_isPlace_35 : decode cX10_isPlace 35 = .ok (.iload_n 2, 1) := by decide +kernel
theorem dX10_isPlace_36 : decode cX10_isPlace 36 = .ok (.bipush 32, 2) := by decide +kernel
theorem dX10_isPlace_38 : decode cX10_isPlace 38 = .ok (.idiv, 1) := by decide +kernel
theorem dX10_isPlace_39 : decode cX10_isPlace 39 = .ok (.invokevirtual 126, 3) := by decide +kernel
theorem dX10_isPlace_42 : decode cX10_isPlace 42 = .ok (.ifCond .ne 5, 3) := by decide +kernel
theorem dX10_isPlace_45 : decode cX10_isPlace 45 = .ok (.iconst 0, 1) := by decide +kernel
theorem dX10_isPlace_46 : decode cX10_isPlace 46 = .ok (.ireturn, 1) := by decide +kernel
theorem dX10_isPlace_47 : decode cX10_isPlace 47 = .ok (.iinc 3 1, 3) := by decide +kernel
theorem dX10_isPlace_50 : decode cX10_isPlace 50 = .ok (.goto (-48), 3) := by decide +kernel
theorem dX10_isPlace_53 : decode cX10_isPlace 53 = .ok (.iconst 1, 1) := by decide +kernel
theorem dX10_isPlace_54 : decode cX10_isPlace 54 = .ok (.ireturn, 1) := by decide +kernel
theorem dX10_sender_0 : decode cX10_sender 0 = .ok (.aload_n 0, 1) := by decide +kernel
theorem dX10_sender_1 : decode cX10_sender 1 = .ok (.iload_n 1, 1) := by decide +kernel
theorem dX10_sender_2 : decode cX10_sender 2 = .ok (.invokevirtual 129, 3) := by decide +kernel
theorem dX10_sender_5 : decode cX10_sender 5 = .ok (.ifCond .eq 13, 3) := by decide +kernel
theorem dX10_sender_8 : decode cX10_sender 8 = .ok (.iload_n 2, 1) := by decide +kernel
theorem dX10_sender_9 : decode cX10_sender 9 = .ok (.iconst 0, 1) := by decide +kernel
theorem dX10_sender_10 : decode cX10_sender 10 = .ok (.bipush 8, 2) := by decide +kernel
theorem dX10_sender_12 : decode cX10_sender 12 = .ok (.invokestatic 87, 3) := by decide +kernel
theorem dX10_sender_15 : decode cX10_sender 15 = .ok (.ifCond .ne 5, 3) := by decide +kernel
theorem dX10_sender_18 : decode cX10_sender 18 = .ok (.iconst (-1), 1) := by decide +kernel
theorem dX10_sender_19 : decode cX10_sender 19 = .ok (.ireturn, 1) := by decide +kernel
theorem dX10_sender_20 : decode cX10_sender 20 = .ok (.aload_n 0, 1) := by decide +kernel
theorem dX10_sender_21 : decode cX10_sender 21 = .ok (.getfield 60, 3) := by decide +kernel
theorem dX10_sender_24 : decode cX10_sender 24 = .ok (.iload_n 1, 1) := by decide +kernel
theorem dX10_sender_25 : decode cX10_sender 25 = .ok (.iaload, 1) := by decide +kernel
theorem dX10_sender_26 : decode cX10_sender 26 = .ok (.istore_n 3, 1) := by decide +kernel
theorem dX10_sender_27 : decode cX10_sender 27 = .ok (.iload_n 2, 1) := by decide +kernel
theorem dX10_sender_28 : decode cX10_sender 28 = .ok (.ifCond .ne 5, 3) := by decide +kernel
theorem dX10_sender_31 : decode cX10_sender 31 = .ok (.iload_n 3, 1) := by decide +kernel
theorem dX10_sender_32 : decode cX10_sender 32 = .ok (.ireturn, 1) := by decide +kernel
theorem dX10_sender_33 : decode cX10_sender 33 = .ok (.iload_n 2, 1) := by decide +kernel
theorem dX10_sender_34 : decode cX10_sender 34 = .ok (.iconst 2, 1) := by decide +kernel
theorem dX10_sender_35 : decode cX10_sender 35 = .ok (.if_icmp .ne 10, 3) := by decide +kernel
theorem dX10_sender_38 : decode cX10_sender 38 = .ok (.aload_n 0, 1) := by decide +kernel
theorem dX10_sender_39 : decode cX10_sender 39 = .ok (.getfield 31, 3) := by decide +kernel
theorem dX10_sender_42 : decode cX10_sender 42 = .ok (.iload_n 3, 1) := by decide +kernel
theorem dX10_sender_43 : decode cX10_sender 43 = .ok (.iaload, 1) := by decide +kernel
theorem dX10_sender_44 : decode cX10_sender 44 = .ok (.ireturn, 1) := by decide +kernel
theorem dX10_sender_45 : decode cX10_sender 45 = .ok (.iconst 0, 1) := by decide +kernel
theorem dX10_sender_46 : decode cX10_sender 46 = .ok (.istore 4, 2) := by decide +kernel
theorem dX10_sender_48 : decode cX10_sender 48 = .ok (.iload_n 2, 1) := by decide +kernel
theorem dX10_sender_49 : decode cX10_sender 49 = .ok (.bipush 7, 2) := by decide +kernel
theorem dX10_sender_51 : decode cX10_sender 51 = .ok (.if_icmp .ne 43, 3) := by decide +kernel
theorem dX10_sender_54 : decode cX10_sender 54 = .ok (.iconst 0, 1) := by decide +kernel
theorem dX10_sender_55 : decode cX10_sender 55 = .ok (.istore 5, 2) := by decide +kernel
theorem dX10_sender_57 : decode cX10_sender 57 = .ok (.iload 5, 2) := by decide +kernel
theorem dX10_sender_59 : decode cX10_sender 59 = .ok (.sipush 1024, 3) := by decide +kernel
theorem dX10_sender_62 : decode cX10_sender 62 = .ok (.if_icmp .ge 29, 3) := by decide +kernel
theorem dX10_sender_65 : decode cX10_sender 65 = .ok (.iload 4, 2) := by decide +kernel
theorem dX10_sender_67 : decode cX10_sender 67 = .ok (.aload_n 0, 1) := by decide +kernel
theorem dX10_sender_68 : decode cX10_sender 68 = .ok (.iload_n 1, 1) := by decide +kernel
theorem dX10_sender_69 : decode cX10_sender 69 = .ok (.iload 5, 2) := by decide +kernel
theorem dX10_sender_71 : decode cX10_sender 71 = .ok (.invokevirtual 132, 3) := by decide +kernel
theorem dX10_sender_74 : decode cX10_sender 74 = .ok (.ifCond .eq 7, 3) := by decide +kernel
theorem dX10_sender_77 : decode cX10_sender 77 = .ok (.iconst 1, 1) := by decide +kernel
theorem dX10_sender_78 : decode cX10_sender 78 = .ok (.goto 4, 3) := by decide +kernel
theorem dX10_sender_81 : decode cX10_sender 81 = .ok (.iconst 0, 1) := by decide +kernel
theorem dX10_sender_82 : decode cX10_sender 82 = .ok (.iadd, 1) := by decide +kernel
theorem dX10_sender_83 : decode cX10_sender 83 = .ok (.istore 4, 2) := by decide +kernel
theorem dX10_sender_85 : decode cX10_sender 85 = .ok (.iinc 5 1, 3) := by decide +kernel
theorem dX10_sender_88 : decode cX10_sender 88 = .ok (.goto (-31), 3) := by decide +kernel
theorem dX10_sender_91 : decode cX10_sender 91 = .ok (.iload 4, 2) := by decide +kernel
theorem dX10_sender_93 : decode cX10_sender 93 = .ok (.ireturn, 1) := by decide +kernel
theorem dX10_sender_94 : decode cX10_sender 94 = .ok (.iconst 0, 1) := by decide +kernel
theorem dX10_sender_95 : decode cX10_sender 95 = .ok (.istore 5, 2) := by decide +kernel
theorem dX10_sender_97 : decode cX10_sender 97 = .ok (.iload_n 2, 1) := by decide +kernel
theorem dX10_sender_98 : decode cX10_sender 98 = .ok (.iconst 3, 1) := by decide +kernel
theorem dX10_sender_99 : decode cX10_sender 99 = .ok (.if_icmp .ne 12, 3) := by decide +kernel
theorem dX10_sender_102 : decode cX10_sender 102 = .ok (.aload_n 0, 1) := by decide +kernel
theorem dX10_sender_103 : decode cX10_sender 103 = .ok (.getfield 34, 3) := by decide +kernel
theorem dX10_sender_106 : decode cX10_sender 106 = .ok (.iload_n 3, 1) := by decide +kernel
theorem dX10_sender_107 : decode cX10_sender 107 = .ok (.iaload, 1) := by decide +kernel
theorem dX10_sender_108 : decode cX10_sender 108 = .ok (.goto 23, 3) := by decide +kernel
theorem dX10_sender_111 : decode cX10_sender 111 = .ok (.iload_n 2, 1) := by decide +kernel
theorem dX10_sender_112 : decode cX10_sender 112 = .ok (.iconst 4, 1) := by decide +kernel
theorem dX10_sender_113 : decode cX10_sender 113 = .ok (.if_icmp .ne 12, 3) := by decide +kernel
theorem dX10_sender_116 : decode cX10_sender 116 = .ok (.aload_n 0, 1) := by decide +kernel
theorem dX10_sender_117 : decode cX10_sender 117 = .ok (.getfield 37, 3) := by decide +kernel
theorem dX10_sender_120 : decode cX10_sender 120 = .ok (.iload_n 3, 1) := by decide +kernel
theorem dX10_sender_121 : decode cX10_sender 121 = .ok (.iaload, 1) := by decide +kernel
theorem dX10_sender_122 : decode cX10_sender 122 = .ok (.goto 9, 3) := by decide +kernel
theorem dX10_sender_125 : decode cX10_sender 125 = .ok (.aload_n 0, 1) := by decide +kernel
theorem dX10_sender_126 : decode cX10_sender 126 = .ok (.getfield 40, 3) := by decide +kernel
theorem dX10_sender_129 : decode cX10_sender 129 = .ok (.iload_n 3, 1) := by decide +kernel
theorem dX10_sender_130 : decode cX10_sender 130 = .ok (.iaload, 1) := by decide +kernel
theorem dX10_sender_131 : decode cX10_sender 131 = .ok (.istore 6, 2) := by decide +kernel
theorem dX10_sender_133 : decode cX10_sender 133 = .ok (.iconst 0, 1) := by decide +kernel
theorem dX10_sender_134 : decode cX10_sender 134 = .ok (.istore 7, 2) := by decide +kernel
theorem dX10_sender_136 : decode cX10_sender 136 = .ok (.iload 7, 2) := by decide +kernel
theorem dX10_sender_138 : decode cX10_sender 138 = .ok (.aload_n 0, 1) := by decide +kernel
theorem dX10_sender_139 : decode cX10_sender 139 = .ok (.getfield 105, 3) := by decide +kernel
theorem dX10_sender_142 : decode cX10_sender 142 = .ok (.if_icmp .ge 110, 3) := by decide +kernel
theorem dX10_sender_145 : decode cX10_sender 145 = .ok (.aload_n 0, 1) := by decide +kernel
theorem dX10_sender_146 : decode cX10_sender 146 = .ok (.getfield 57, 3) := by decide +kernel
theorem dX10_sender_149 : decode cX10_sender 149 = .ok (.iload 7, 2) := by decide +kernel
theorem dX10_sender_151 : decode cX10_sender 151 = .ok (.iaload, 1) := by decide +kernel
theorem dX10_sender_152 : decode cX10_sender 152 = .ok (.iload_n 1, 1) := by decide +kernel
theorem dX10_sender_153 : decode cX10_sender 153 = .ok (.if_icmp .eq 6, 3) := by decide +kernel
theorem dX10_sender_156 : decode cX10_sender 156 = .ok (.goto 90, 3) := by decide +kernel
theorem dX10_sender_159 : decode cX10_sender 159 = .ok (.iinc 4 1, 3) := by decide +kernel
theorem dX10_sender_162 : decode cX10_sender 162 = .ok (.iload 5, 2) := by decide +kernel
theorem dX10_sender_164 : decode cX10_sender 164 = .ok (.iconst 1, 1) := by decide +kernel
theorem dX10_sender_165 : decode cX10_sender 165 = .ok (.aload_n 0, 1) := by decide +kernel
theorem dX10_sender_166 : decode cX10_sender 166 = .ok (.getfield 28, 3) := by decide +kernel
theorem dX10_sender_169 : decode cX10_sender 169 = .ok (.iload 7, 2) := by decide +kernel
theorem dX10_sender_171 : decode cX10_sender 171 = .ok (.iaload, 1) := by decide +kernel
theorem dX10_sender_172 : decode cX10_sender 172 = .ok (.ishl, 1) := by decide +kernel
theorem dX10_sender_173 : decode cX10_sender 173 = .ok (.ior, 1) := by decide +kernel
theorem dX10_sender_174 : decode cX10_sender 174 = .ok (.istore 5, 2) := by decide +kernel
theorem dX10_sender_176 : decode cX10_sender 176 = .ok (.iload_n 2, 1) := by decide +kernel
theorem dX10_sender_177 : decode cX10_sender 177 = .ok (.iconst 3, 1) := by decide +kernel
theorem dX10_sender_178 : decode cX10_sender 178 = .ok (.if_icmp .ne 13, 3) := by decide +kernel
theorem dX10_sender_181 : decode cX10_sender 181 = .ok (.aload_n 0, 1) := by decide +kernel
theorem dX10_sender_182 : decode cX10_sender 182 = .ok (.getfield 34, 3) := by decide +kernel
theorem dX10_sender_185 : decode cX10_sender 185 = .ok (.iload 7, 2) := by decide +kernel
theorem dX10_sender_187 : decode cX10_sender 187 = .ok (.iaload, 1) := by decide +kernel
theorem dX10_sender_188 : decode cX10_sender 188 = .ok (.goto 25, 3) := by decide +kernel
theorem dX10_sender_191 : decode cX10_sender 191 = .ok (.iload_n 2, 1) := by decide +kernel
theorem dX10_sender_192 : decode cX10_sender 192 = .ok (.iconst 4, 1) := by decide +kernel
theorem dX10_sender_193 : decode cX10_sender 193 = .ok (.if_icmp .ne 13, 3) := by decide +kernel
theorem dX10_sender_196 : decode cX10_sender 196 = .ok (.aload_n 0, 1) := by decide +kernel
theorem dX10_sender_197 : decode cX10_sender 197 = .ok (.getfield 37, 3) := by decide +kernel
theorem dX10_sender_200 : decode cX10_sender 200 = .ok (.iload 7, 2) := by decide +kernel
theorem dX10_sender_202 : decode cX10_sender 202 = .ok (.iaload, 1) := by decide +kernel
theorem dX10_sender_203 : decode cX10_sender 203 = .ok (.goto 10, 3) := by decide +kernel
theorem dX10_sender_206 : decode cX10_sender 206 = .ok (.aload_n 0, 1) := by decide +kernel
theorem dX10_sender_207 : decode cX10_sender 207 = .ok (.getfield 40, 3) := by decide +kernel
theorem dX10_sender_210 : decode cX10_sender 210 = .ok (.iload 7, 2) := by decide +kernel
theorem dX10_sender_212 : decode cX10_sender 212 = .ok (.iaload, 1) := by decide +kernel
theorem dX10_sender_213 : decode cX10_sender 213 = .ok (.istore 8, 2) := by decide +kernel
theorem dX10_sender_215 : decode cX10_sender 215 = .ok (.iload_n 2, 1) := by decide +kernel
theorem dX10_sender_216 : decode cX10_sender 216 = .ok (.iconst 3, 1) := by decide +kernel
theorem dX10_sender_217 : decode cX10_sender 217 = .ok (.if_icmp .eq 8, 3) := by decide +kernel
theorem dX10_sender_220 : decode cX10_sender 220 = .ok (.iload_n 2, 1) := by decide +kernel
theorem dX10_sender_221 : decode cX10_sender 221 = .ok (.iconst 5, 1) := by decide +kernel
theorem dX10_sender_222 : decode cX10_sender 222 = .ok (.if_icmp .ne 13, 3) := by decide +kernel
theorem dX10_sender_225 : decode cX10_sender 225 = .ok (.iload 8, 2) := by decide +kernel
theorem dX10_sender_227 : decode cX10_sender 227 = .ok (.iload 6, 2) := by decide +kernel
theorem dX10_sender_229 : decode cX10_sender 229 = .ok (.if_icmp .ge 17, 3) := by decide +kernel
theorem dX10_sender_232 : decode cX10_sender 232 = .ok (.goto 10, 3) := by decide +kernel
theorem dX10_sender_235 : decode cX10_sender 235 = .ok (.iload 8, 2) := by decide +kernel
theorem dX10_sender_237 : decode cX10_sender 237 = .ok (.iload 6, 2) := by decide +kernel
theorem dX10_sender_239 : decode cX10_sender 239 = .ok (.if_icmp .le 7, 3) := by decide +kernel
theorem dX10_sender_242 : decode cX10_sender 242 = .ok (.iload 8, 2) := by decide +kernel
theorem dX10_sender_244 : decode cX10_sender 244 = .ok (.istore 6, 2) := by decide +kernel
theorem dX10_sender_246 : decode cX10_sender 246 = .ok (.iinc 7 1, 3) := by decide +kernel
theorem dX10_sender_249 : decode cX10_sender 249 = .ok (.goto (-113), 3) := by decide +kernel
theorem dX10_sender_252 : decode cX10_sender 252 = .ok (.iload_n 2, 1) := by decide +kernel
theorem dX10_sender_253 : decode cX10_sender 253 = .ok (.iconst 1, 1) := by decide +kernel
theorem dX10_sender_254 : decode cX10_sender 254 = .ok (.if_icmp .ne 6, 3) := by decide +kernel
theorem dX10_sender_257 : decode cX10_sender 257 = .ok (.iload 4, 2) := by decide +kernel
theorem dX10_sender_259 : decode cX10_sender 259 = .ok (.ireturn, 1) := by decide +kernel
theorem dX10_sender_260 : decode cX10_sender 260 = .ok (.iload_n 2, 1) := by decide +kernel
theorem dX10_sender_261 : decode cX10_sender 261 = .ok (.bipush 8, 2) := by decide +kernel
theorem dX10_sender_263 : decode cX10_sender 263 = .ok (.if_icmp .eq 6, 3) := by decide +kernel
theorem dX10_sender_266 : decode cX10_sender 266 = .ok (.iload 6, 2) := by decide +kernel
theorem dX10_sender_268 : decode cX10_sender 268 = .ok (.ireturn, 1) := by decide +kernel
theorem dX10_sender_269 : decode cX10_sender 269 = .ok (.iconst 0, 1) := by decide +kernel
theorem dX10_sender_270 : decode cX10_sender 270 = .ok (.istore 7, 2) := by decide +kernel
theorem dX10_sender_272 : decode cX10_sender 272 = .ok (.iconst 0, 1) := by decide +kernel
theorem dX10_sender_273 : decode cX10_sender 273 = .ok (.istore 8, 2) := by decide +kernel
