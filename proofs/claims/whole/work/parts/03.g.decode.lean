theorem dX10_answer_171 : decode cX10_answer 171 = .ok (.iload 7, 2) := by decide +kernel
theorem dX10_answer_173 : decode cX10_answer 173 = .ok (.invokevirtual 132, 3) := by decide +kernel
theorem dX10_answer_176 : decode cX10_answer 176 = .ok (.ifCond .ne 6, 3) := by decide +kernel
theorem dX10_answer_179 : decode cX10_answer 179 = .ok (.goto 102, 3) := by decide +kernel
theorem dX10_answer_182 : decode cX10_answer 182 = .ok (.iload 7, 2) := by decide +kernel
theorem dX10_answer_184 : decode cX10_answer 184 = .ok (.bipush 32, 2) := by decide +kernel
theorem dX10_answer_186 : decode cX10_answer 186 = .ok (.irem, 1) := by decide +kernel
theorem dX10_answer_187 : decode cX10_answer 187 = .ok (.aload_n 0, 1) := by decide +kernel
theorem dX10_answer_188 : decode cX10_answer 188 = .ok (.getfield 66, 3) := by decide +kernel
theorem dX10_answer_191 : decode cX10_answer 191 = .ok (.iload_n 3, 1) := by decide +kernel
theorem dX10_answer_192 : decode cX10_answer 192 = .ok (.bipush 6, 2) := by decide +kernel
theorem dX10_answer_194 : decode cX10_answer 194 = .ok (.iadd, 1) := by decide +kernel
theorem dX10_answer_195 : decode cX10_answer 195 = .ok (.iaload, 1) := by decide +kernel
theorem dX10_answer_196 : decode cX10_answer 196 = .ok (.aload_n 0, 1) := by decide +kernel
theorem dX10_answer_197 : decode cX10_answer 197 = .ok (.getfield 66, 3) := by decide +kernel
theorem dX10_answer_200 : decode cX10_answer 200 = .ok (.iload_n 3, 1) := by decide +kernel
theorem dX10_answer_201 : decode cX10_answer 201 = .ok (.bipush 7, 2) := by decide +kernel
theorem dX10_answer_203 : decode cX10_answer 203 = .ok (.iadd, 1) := by decide +kernel
theorem dX10_answer_204 : decode cX10_answer 204 = .ok (.iaload, 1) := by decide +kernel
theorem dX10_answer_205 : decode cX10_answer 205 = .ok (.invokestatic 87, 3) := by decide +kernel
theorem dX10_answer_208 : decode cX10_answer 208 = .ok (.ifCond .eq 36, 3) := by decide +kernel
theorem dX10_answer_211 : decode cX10_answer 211 = .ok (.iload 7, 2) := by decide +kernel
theorem dX10_answer_213 : decode cX10_answer 213 = .ok (.bipush 32, 2) := by decide +kernel
theorem dX10_answer_215 : decode cX10_answer 215 = .ok (.idiv, 1) := by decide +kernel
theorem dX10_answer_216 : decode cX10_answer 216 = .ok (.aload_n 0, 1) := by decide +kernel
theorem dX10_answer_217 : decode cX10_answer 217 = .ok (.getfield 66, 3) := by decide +kernel
theorem dX10_answer_220 : decode cX10_answer 220 = .ok (.iload_n 3, 1) := by decide +kernel
theorem dX10_answer_221 : decode cX10_answer 221 = .ok (.bipush 8, 2) := by decide +kernel
theorem dX10_answer_223 : decode cX10_answer 223 = .ok (.iadd, 1) := by decide +kernel
theorem dX10_answer_224 : decode cX10_answer 224 = .ok (.iaload, 1) := by decide +kernel
theorem dX10_answer_225 : decode cX10_answer 225 = .ok (.aload_n 0, 1) := by decide +kernel
theorem dX10_answer_226 : decode cX10_answer 226 = .ok (.getfield 66, 3) := by decide +kernel
theorem dX10_answer_229 : decode cX10_answer 229 = .ok (.iload_n 3, 1) := by decide +kernel
theorem dX10_answer_230 : decode cX10_answer 230 = .ok (.bipush 9, 2) := by decide +kernel
theorem dX10_answer_232 : decode cX10_answer 232 = .ok (.iadd, 1) := by decide +kernel
theorem dX10_answer_233 : decode cX10_answer 233 = .ok (.iaload, 1) := by decide +kernel
theorem dX10_answer_234 : decode cX10_answer 234 = .ok (.invokestatic 87, 3) := by decide +kernel
theorem dX10_answer_237 : decode cX10_answer 237 = .ok (.ifCond .eq 7, 3) := by decide +kernel
theorem dX10_answer_240 : decode cX10_answer 240 = .ok (.iconst 1, 1) := by decide +kernel
theorem dX10_answer_241 : decode cX10_answer 241 = .ok (.goto 4, 3) := by decide +kernel
theorem dX10_answer_244 : decode cX10_answer 244 = .ok (.iconst 0, 1) := by decide +kernel
theorem dX10_answer_245 : decode cX10_answer 245 = .ok (.istore 8, 2) := by decide +kernel
theorem dX10_answer_247 : decode cX10_answer 247 = .ok (.iload 5, 2) := by decide +kernel
theorem dX10_answer_249 : decode cX10_answer 249 = .ok (.ifCond .ne 8, 3) := by decide +kernel
theorem dX10_answer_252 : decode cX10_answer 252 = .ok (.iload 8, 2) := by decide +kernel
theorem dX10_answer_254 : decode cX10_answer 254 = .ok (.ifCond .eq 7, 3) := by decide +kernel
theorem dX10_answer_257 : decode cX10_answer 257 = .ok (.iconst 1, 1) := by decide +kernel
theorem dX10_answer_258 : decode cX10_answer 258 = .ok (.goto 4, 3) := by decide +kernel
theorem dX10_answer_261 : decode cX10_answer 261 = .ok (.iconst 0, 1) := by decide +kernel
theorem dX10_answer_262 : decode cX10_answer 262 = .ok (.istore 5, 2) := by decide +kernel
theorem dX10_answer_264 : decode cX10_answer 264 = .ok (.iload 6, 2) := by decide +kernel
theorem dX10_answer_266 : decode cX10_answer 266 = .ok (.ifCond .eq 12, 3) := by decide +kernel
theorem dX10_answer_269 : decode cX10_answer 269 = .ok (.iload 8, 2) := by decide +kernel
theorem dX10_answer_271 : decode cX10_answer 271 = .ok (.ifCond .eq 7, 3) := by decide +kernel
theorem dX10_answer_274 : decode cX10_answer 274 = .ok (.iconst 1, 1) := by decide +kernel
theorem dX10_answer_275 : decode cX10_answer 275 = .ok (.goto 4, 3) := by decide +kernel
theorem dX10_answer_278 : decode cX10_answer 278 = .ok (.iconst 0, 1) := by decide +kernel
theorem dX10_answer_279 : decode cX10_answer 279 = .ok (.istore 6, 2) := by decide +kernel
theorem dX10_answer_281 : decode cX10_answer 281 = .ok (.iinc 7 1, 3) := by decide +kernel
theorem dX10_answer_284 : decode cX10_answer 284 = .ok (.goto (-123), 3) := by decide +kernel
theorem dX10_answer_287 : decode cX10_answer 287 = .ok (.iload 5, 2) := by decide +kernel
theorem dX10_answer_289 : decode cX10_answer 289 = .ok (.ifCond .ne 7, 3) := by decide +kernel
theorem dX10_answer_292 : decode cX10_answer 292 = .ok (.iconst 4, 1) := by decide +kernel
theorem dX10_answer_293 : decode cX10_answer 293 = .ok (.goto 13, 3) := by decide +kernel
theorem dX10_answer_296 : decode cX10_answer 296 = .ok (.iload 6, 2) := by decide +kernel
theorem dX10_answer_298 : decode cX10_answer 298 = .ok (.ifCond .eq 7, 3) := by decide +kernel
theorem dX10_answer_301 : decode cX10_answer 301 = .ok (.iconst 0, 1) := by decide +kernel
theorem dX10_answer_302 : decode cX10_answer 302 = .ok (.goto 4, 3) := by decide +kernel
theorem dX10_answer_305 : decode cX10_answer 305 = .ok (.iconst 5, 1) := by decide +kernel
theorem dX10_answer_306 : decode cX10_answer 306 = .ok (.ireturn, 1) := by decide +kernel
theorem dX10_fits_0 : decode cX10_fits 0 = .ok (.aload_n 0, 1) := by decide +kernel
theorem dX10_fits_1 : decode cX10_fits 1 = .ok (.iload_n 1, 1) := by decide +kernel
theorem dX10_fits_2 : decode cX10_fits 2 = .ok (.invokevirtual 129, 3) := by decide +kernel
theorem dX10_fits_5 : decode cX10_fits 5 = .ok (.ifCond .eq 26, 3) := by decide +kernel
theorem dX10_fits_8 : decode cX10_fits 8 = .ok (.iload_n 2, 1) := by decide +kernel
theorem dX10_fits_9 : decode cX10_fits 9 = .ok (.iconst 0, 1) := by decide +kernel
theorem dX10_fits_10 : decode cX10_fits 10 = .ok (.aload_n 0, 1) := by decide +kernel
theorem dX10_fits_11 : decode cX10_fits 11 = .ok (.getfield 186, 3) := by decide +kernel
theorem dX10_fits_14 : decode cX10_fits 14 = .ok (.iconst 1, 1) := by decide +kernel
theorem dX10_fits_15 : decode cX10_fits 15 = .ok (.isub, 1) := by decide +kernel
theorem dX10_fits_16 : decode cX10_fits 16 = .ok (.invokestatic 87, 3) := by decide +kernel
theorem dX10_fits_19 : decode cX10_fits 19 = .ok (.ifCond .eq 12, 3) := by decide +kernel
theorem dX10_fits_22 : decode cX10_fits 22 = .ok (.aload_n 0, 1) := by decide +kernel
theorem dX10_fits_23 : decode cX10_fits 23 = .ok (.iload_n 1, 1) := by decide +kernel
theorem dX10_fits_24 : decode cX10_fits 24 = .ok (.iload_n 2, 1) := by decide +kernel
theorem dX10_fits_25 : decode cX10_fits 25 = .ok (.invokevirtual 196, 3) := by decide +kernel
theorem dX10_fits_28 : decode cX10_fits 28 = .ok (.goto 4, 3) := by decide +kernel
theorem dX10_fits_31 : decode cX10_fits 31 = .ok (.iconst (-1), 1) := by decide +kernel
theorem dX10_fits_32 : decode cX10_fits 32 = .ok (.ireturn, 1) := by decide +kernel
theorem dX10_rankOf_0 : decode cX10_rankOf 0 = .ok (.iload_n 0, 1) := by decide +kernel
theorem dX10_rankOf_1 : decode cX10_rankOf 1 = .ok (.ifCond .ne 7, 3) := by decide +kernel
theorem dX10_rankOf_4 : decode cX10_rankOf 4 = .ok (.iconst 0, 1) := by decide +kernel
theorem dX10_rankOf_5 : decode cX10_rankOf 5 = .ok (.goto 7, 3) := by decide +kernel
theorem dX10_rankOf_8 : decode cX10_rankOf 8 = .ok (.bipush 6, 2) := by decide +kernel
theorem dX10_rankOf_10 : decode cX10_rankOf 10 = .ok (.iload_n 0, 1) := by decide +kernel
theorem dX10_rankOf_11 : decode cX10_rankOf 11 = .ok (.isub, 1) := by decide +kernel
theorem dX10_rankOf_12 : decode cX10_rankOf 12 = .ok (.ireturn, 1) := by decide +kernel
theorem dX10_bestOf_0 : decode cX10_bestOf 0 = .ok (.iconst (-1), 1) := by decide +kernel
theorem dX10_bestOf_1 : decode cX10_bestOf 1 = .ok (.istore_n 2, 1) := by decide +kernel
theorem dX10_bestOf_2 : decode cX10_bestOf 2 = .ok (.iconst 0, 1) := by decide +kernel
theorem dX10_bestOf_3 : decode cX10_bestOf 3 = .ok (.istore_n 3, 1) := by decide +kernel
theorem dX10_bestOf_4 : decode cX10_bestOf 4 = .ok (.iload_n 3, 1) := by decide +kernel
theorem dX10_bestOf_5 : decode cX10_bestOf 5 = .ok (.aload_n 0, 1) := by decide +kernel
theorem dX10_bestOf_6 : decode cX10_bestOf 6 = .ok (.getfield 186, 3) := by decide +kernel
theorem dX10_bestOf_9 : decode cX10_bestOf 9 = .ok (.if_icmp .ge 36, 3) := by decide +kernel
theorem dX10_bestOf_12 : decode cX10_bestOf 12 = .ok (.iload_n 2, 1) := by decide +kernel
theorem dX10_bestOf_13 : decode cX10_bestOf 13 = .ok (.ifCond .lt 24, 3) := by decide +kernel
theorem dX10_bestOf_16 : decode cX10_bestOf 16 = .ok (.aload_n 0, 1) := by decide +kernel
theorem dX10_bestOf_17 : decode cX10_bestOf 17 = .ok (.iload_n 1, 1) := by decide +kernel
theorem dX10_bestOf_18 : decode cX10_bestOf 18 = .ok (.iload_n 3, 1) := by decide +kernel
theorem dX10_bestOf_19 : decode cX10_bestOf 19 = .ok (.invokevirtual 196, 3) := by decide +kernel
theorem dX10_bestOf_22 : decode cX10_bestOf 22 = .ok (.invokestatic 199, 3) := by decide +kernel
theorem dX10_bestOf_25 : decode cX10_bestOf 25 = .ok (.aload_n 0, 1) := by decide +kernel
theorem dX10_bestOf_26 : decode cX10_bestOf 26 = .ok (.iload_n 1, 1) := by decide +kernel
theorem dX10_bestOf_27 : decode cX10_bestOf 27 = .ok (.iload_n 2, 1) := by decide +kernel
theorem dX10_bestOf_28 : decode cX10_bestOf 28 = .ok (.invokevirtual 196, 3) := by decide +kernel
theorem dX10_bestOf_31 : decode cX10_bestOf 31 = .ok (.invokestatic 199, 3) := by decide +kernel
theorem dX10_bestOf_34 : decode cX10_bestOf 34 = .ok (.if_icmp .ge 5, 3) := by decide +kernel
theorem dX10_bestOf_37 : decode cX10_bestOf 37 = .ok (.iload_n 3, 1) := by decide +kernel
theorem dX10_bestOf_38 : decode cX10_bestOf 38 = .ok (.istore_n 2, 1) := by decide +kernel
theorem dX10_bestOf_39 : decode cX10_bestOf 39 = .ok (.iinc 3 1, 3) := by decide +kernel
theorem dX10_bestOf_42 : decode cX10_bestOf 42 = .ok (.goto (-38), 3) := by decide +kernel
theorem dX10_bestOf_45 : decode cX10_bestOf 45 = .ok (.iload_n 2, 1) := by decide +kernel
theorem dX10_bestOf_46 : decode cX10_bestOf 46 = .ok (.ireturn, 1) := by decide +kernel
theorem dX10_best_0 : decode cX10_best 0 = .ok (.aload_n 0, 1) := by decide +kernel
theorem dX10_best_1 : decode cX10_best 1 = .ok (.iload_n 1, 1) := by decide +kernel
theorem dX10_best_2 : decode cX10_best 2 = .ok (.invokevirtual 129, 3) := by decide +kernel
theorem dX10_best_5 : decode cX10_best 5 = .ok (.ifCond .eq 19, 3) := by decide +kernel
theorem dX10_best_8 : decode cX10_best 8 = .ok (.aload_n 0, 1) := by decide +kernel
theorem dX10_best_9 : decode cX10_best 9 = .ok (.getfield 186, 3) := by decide +kernel
theorem dX10_best_12 : decode cX10_best 12 = .ok (.ifCond .eq 12, 3) := by decide +kernel
theorem dX10_best_15 : decode cX10_best 15 = .ok (.iload_n 2, 1) := by decide +kernel
theorem dX10_best_16 : decode cX10_best 16 = .ok (.iconst 0, 1) := by decide +kernel
theorem dX10_best_17 : decode cX10_best 17 = .ok (.iconst 1, 1) := by decide +kernel
theorem dX10_best_18 : decode cX10_best 18 = .ok (.invokestatic 87, 3) := by decide +kernel
theorem dX10_best_21 : decode cX10_best 21 = .ok (.ifCond .ne 5, 3) := by decide +kernel
theorem dX10_best_24 : decode cX10_best 24 = .ok (.iconst (-1), 1) := by decide +kernel
theorem dX10_best_25 : decode cX10_best 25 = .ok (.ireturn, 1) := by decide +kernel
theorem dX10_best_26 : decode cX10_best 26 = .ok (.aload_n 0, 1) := by decide +kernel
theorem dX10_best_27 : decode cX10_best 27 = .ok (.iload_n 1, 1) := by decide +kernel
theorem dX10_best_28 : decode cX10_best 28 = .ok (.invokevirtual 202, 3) := by decide +kernel
theorem dX10_best_31 : decode cX10_best 31 = .ok (.istore_n 3, 1) := by decide +kernel
theorem dX10_best_32 : decode cX10_best 32 = .ok (.iload_n 2, 1) := by decide +kernel
theorem dX10_best_33 : decode cX10_best 33 = .ok (.ifCond .ne 7, 3) := by decide +kernel
theorem dX10_best_36 : decode cX10_best 36 = .ok (.iload_n 3, 1) := by decide +kernel
theorem dX10_best_37 : decode cX10_best 37 = .ok (.goto 9, 3) := by decide +kernel
theorem dX10_best_40 : decode cX10_best 40 = .ok (.aload_n 0, 1) := by decide +kernel
theorem dX10_best_41 : decode cX10_best 41 = .ok (.iload_n 1, 1) := by decide +kernel
theorem dX10_best_42 : decode cX10_best 42 = .ok (.iload_n 3, 1) := by decide +kernel
theorem dX10_best_43 : decode cX10_best 43 = .ok (.invokevirtual 196, 3) := by decide +kernel
theorem dX10_best_46 : decode cX10_best 46 = .ok (.ireturn, 1) := by decide +kernel
theorem dX10_wanderers_0 : decode cX10_wanderers 0 = .ok (.aload_n 0, 1) := by decide +kernel
theorem dX10_wanderers_1 : decode cX10_wanderers 1 = .ok (.invokevirtual 123, 3) := by decide +kernel
theorem dX10_wanderers_4 : decode cX10_wanderers 4 = .ok (.iconst 0, 1) := by decide +kernel
theorem dX10_wanderers_5 : decode cX10_wanderers 5 = .ok (.istore_n 1, 1) := by decide +kernel
theorem dX10_wanderers_6 : decode cX10_wanderers 6 = .ok (.iconst 0, 1) := by decide +kernel
theorem dX10_wanderers_7 : decode cX10_wanderers 7 = .ok (.istore_n 2, 1) := by decide +kernel
theorem dX10_wanderers_8 : decode cX10_wanderers 8 = .ok (.iload_n 2, 1) := by decide +kernel
theorem dX10_wanderers_9 : decode cX10_wanderers 9 = .ok (.aload_n 0, 1) := by decide +kernel
theorem dX10_wanderers_10 : decode cX10_wanderers 10 = .ok (.getfield 114, 3) := by decide +kernel
theorem dX10_wanderers_13 : decode cX10_wanderers 13 = .ok (.if_icmp .ge 36, 3) := by decide +kernel
theorem dX10_wanderers_16 : decode cX10_wanderers 16 = .ok (.aload_n 0, 1) := by decide +kernel
theorem dX10_wanderers_17 : decode cX10_wanderers 17 = .ok (.iload_n 2, 1) := by decide +kernel
theorem dX10_wanderers_18 : decode cX10_wanderers 18 = .ok (.invokevirtual 202, 3) := by decide +kernel
theorem dX10_wanderers_21 : decode cX10_wanderers 21 = .ok (.istore_n 3, 1) := by decide +kernel
theorem dX10_wanderers_22 : decode cX10_wanderers 22 = .ok (.iload_n 1, 1) := by decide +kernel
theorem dX10_wanderers_23 : decode cX10_wanderers 23 = .ok (.iload_n 3, 1) := by decide +kernel
theorem dX10_wanderers_24 : decode cX10_wanderers 24 = .ok (.ifCond .lt 12, 3) := by decide +kernel
theorem dX10_wanderers_27 : decode cX10_wanderers 27 = .ok (.aload_n 0, 1) := by decide +kernel
theorem dX10_wanderers_28 : decode cX10_wanderers 28 = .ok (.iload_n 2, 1) := by decide +kernel
theorem dX10_wanderers_29 : decode cX10_wanderers 29 = .ok (.iload_n 3, 1) := by decide +kernel
theorem dX10_wanderers_30 : decode cX10_wanderers 30 = .ok (.invokevirtual 196, 3) := by decide +kernel
theorem dX10_wanderers_33 : decode cX10_wanderers 33 = .ok (.ifCond .eq 7, 3) := by decide +kernel
theorem dX10_wanderers_36 : decode cX10_wanderers 36 = .ok (.iconst 1, 1) := by decide +kernel
theorem dX10_wanderers_37 : decode cX10_wanderers 37 = .ok (.goto 4, 3) := by decide +kernel
theorem dX10_wanderers_40 : decode cX10_wanderers 40 = .ok (.iconst 0, 1) := by decide +kernel
theorem dX10_wanderers_41 : decode cX10_wanderers 41 = .ok (.iadd, 1) := by decide +kernel
theorem dX10_wanderers_42 : decode cX10_wanderers 42 = .ok (.istore_n 1, 1) := by decide +kernel
theorem dX10_wanderers_43 : decode cX10_wanderers 43 = .ok (.iinc 2 1, 3) := by decide +kernel
theorem dX10_wanderers_46 : decode cX10_wanderers 46 = .ok (.goto (-38), 3) := by decide +kernel
theorem dX10_wanderers_49 : decode cX10_wanderers 49 = .ok (.iload_n 1, 1) := by decide +kernel
theorem dX10_wanderers_50 : decode cX10_wanderers 50 = .ok (.ireturn, 1) := by decide +kernel
theorem dX10_worth_0 : decode cX10_worth 0 = .ok (.iconst 0, 1) := by decide +kernel
theorem dX10_worth_1 : decode cX10_worth 1 = .ok (.istore 4, 2) := by decide +kernel
theorem dX10_worth_3 : decode cX10_worth 3 = .ok (.iconst 0, 1) := by decide +kernel
theorem dX10_worth_4 : decode cX10_worth 4 = .ok (.istore 5, 2) := by decide +kernel
theorem dX10_worth_6 : decode cX10_worth 6 = .ok (.iload 5, 2) := by decide +kernel
theorem dX10_worth_8 : decode cX10_worth 8 = .ok (.iload_n 1, 1) := by decide +kernel
theorem dX10_worth_9 : decode cX10_worth 9 = .ok (.if_icmp .ge 112, 3) := by decide +kernel
theorem dX10_worth_12 : decode cX10_worth 12 = .ok (.aload_n 0, 1) := by decide +kernel
theorem dX10_worth_13 : decode cX10_worth 13 = .ok (.getfield 84, 3) := by decide +kernel
theorem dX10_worth_16 : decode cX10_worth 16 = .ok (.aload_n 0, 1) := by decide +kernel
theorem dX10_worth_17 : decode cX10_worth 17 = .ok (.getfield 78, 3) := by decide +kernel
theorem dX10_worth_20 : decode cX10_worth 20 = .ok (.iload 5, 2) := by decide +kernel
theorem dX10_worth_22 : decode cX10_worth 22 = .ok (.iaload, 1) := by decide +kernel
theorem dX10_worth_23 : decode cX10_worth 23 = .ok (.iaload, 1) := by decide +kernel
theorem dX10_worth_24 : decode cX10_worth 24 = .ok (.istore 6, 2) := by decide +kernel
theorem dX10_worth_26 : decode cX10_worth 26 = .ok (.aload_n 0, 1) := by decide +kernel
theorem dX10_worth_27 : decode cX10_worth 27 = .ok (.getfield 81, 3) := by decide +kernel
theorem dX10_worth_30 : decode cX10_worth 30 = .ok (.bipush 16, 2) := by decide +kernel
theorem dX10_worth_32 : decode cX10_worth 32 = .ok (.iload 5, 2) := by decide +kernel
theorem dX10_worth_34 : decode cX10_worth 34 = .ok (.imul, 1) := by decide +kernel
theorem dX10_worth_35 : decode cX10_worth 35 = .ok (.iload 6, 2) := by decide +kernel
theorem dX10_worth_37 : decode cX10_worth 37 = .ok (.iadd, 1) := by decide +kernel
theorem dX10_worth_38 : decode cX10_worth 38 = .ok (.iaload, 1) := by decide +kernel
theorem dX10_worth_39 : decode cX10_worth 39 = .ok (.istore 7, 2) := by decide +kernel
theorem dX10_worth_41 : decode cX10_worth 41 = .ok (.iconst 0, 1) := by decide +kernel
theorem dX10_worth_42 : decode cX10_worth 42 = .ok (.istore 8, 2) := by decide +kernel
theorem dX10_worth_44 : decode cX10_worth 44 = .ok (.iload 8, 2) := by decide +kernel
theorem dX10_worth_46 : decode cX10_worth 46 = .ok (.iload 5, 2) := by decide +kernel
theorem dX10_worth_48 : decode cX10_worth 48 = .ok (.if_icmp .ge 53, 3) := by decide +kernel
theorem dX10_worth_51 : decode cX10_worth 51 = .ok (.aload_n 0, 1) := by decide +kernel
theorem dX10_worth_52 : decode cX10_worth 52 = .ok (.getfield 78, 3) := by decide +kernel
theorem dX10_worth_55 : decode cX10_worth 55 = .ok (.iload 8, 2) := by decide +kernel
theorem dX10_worth_57 : decode cX10_worth 57 = .ok (.iaload, 1) := by decide +kernel
theorem dX10_worth_58 : decode cX10_worth 58 = .ok (.aload_n 0, 1) := by decide +kernel
theorem dX10_worth_59 : decode cX10_worth 59 = .ok (.getfield 78, 3) := by decide +kernel
theorem dX10_worth_62 : decode cX10_worth 62 = .ok (.iload 5, 2) := by decide +kernel
theorem dX10_worth_64 : decode cX10_worth 64 = .ok (.iaload, 1) := by decide +kernel
theorem dX10_worth_65 : decode cX10_worth 65 = .ok (.if_icmp .ne 30, 3) := by decide +kernel
theorem dX10_worth_68 : decode cX10_worth 68 = .ok (.iload_n 2, 1) := by decide +kernel
theorem dX10_worth_69 : decode cX10_worth 69 = .ok (.iload 8, 2) := by decide +kernel
theorem dX10_worth_71 : decode cX10_worth 71 = .ok (.iconst 1, 1) := by decide +kernel
theorem dX10_worth_72 : decode cX10_worth 72 = .ok (.iadd, 1) := by decide +kernel
theorem dX10_worth_73 : decode cX10_worth 73 = .ok (.iload_n 3, 1) := by decide +kernel
theorem dX10_worth_74 : decode cX10_worth 74 = .ok (.imul, 1) := by decide +kernel
theorem dX10_worth_75 : decode cX10_worth 75 = .ok (.iadd, 1) := by decide +kernel
theorem dX10_worth_76 : decode cX10_worth 76 = .ok (.iconst 1, 1) := by decide +kernel
theorem dX10_worth_77 : decode cX10_worth 77 = .ok (.isub, 1) := by decide +kernel
theorem dX10_worth_78 : decode cX10_worth 78 = .ok (.iload 7, 2) := by decide +kernel
theorem dX10_worth_80 : decode cX10_worth 80 = .ok (.if_icmp .le 15, 3) := by decide +kernel
theorem dX10_worth_83 : decode cX10_worth 83 = .ok (.iload_n 2, 1) := by decide +kernel
theorem dX10_worth_84 : decode cX10_worth 84 = .ok (.iload 8, 2) := by decide +kernel
theorem dX10_worth_86 : decode cX10_worth 86 = .ok (.iconst 1, 1) := by decide +kernel
theorem dX10_worth_87 : decode cX10_worth 87 = .ok (.iadd, 1) := by decide +kernel
theorem dX10_worth_88 : decode cX10_worth 88 = .ok (.iload_n 3, 1) := by decide +kernel
theorem dX10_worth_89 : decode cX10_worth 89 = .ok (.imul, 1) := by decide +kernel
theorem dX10_worth_90 : decode cX10_worth 90 = .ok (.iadd, 1) := by decide +kernel
theorem dX10_worth_91 : decode cX10_worth 91 = .ok (.iconst 1, 1) := by decide +kernel
theorem dX10_worth_92 : decode cX10_worth 92 = .ok (.isub, 1) := by decide +kernel
theorem dX10_worth_93 : decode cX10_worth 93 = .ok (.istore 7, 2) := by decide +kernel
theorem dX10_worth_95 : decode cX10_worth 95 = .ok (.iinc 8 1, 3) := by decide +kernel
theorem dX10_worth_98 : decode cX10_worth 98 = .ok (.goto (-54), 3) := by decide +kernel
theorem dX10_worth_101 : decode cX10_worth 101 = .ok (.iload 4, 2) := by decide +kernel
theorem dX10_worth_103 : decode cX10_worth 103 = .ok (.iload_n 2, 1) := by decide +kernel
theorem dX10_worth_104 : decode cX10_worth 104 = .ok (.iload 5, 2) := by decide +kernel
theorem dX10_worth_106 : decode cX10_worth 106 = .ok (.iload_n 3, 1) := by decide +kernel
theorem dX10_worth_107 : decode cX10_worth 107 = .ok (.imul, 1) := by decide +kernel
theorem dX10_worth_108 : decode cX10_worth 108 = .ok (.iadd, 1) := by decide +kernel
theorem dX10_worth_109 : decode cX10_worth 109 = .ok (.iload 7, 2) := by decide +kernel
theorem dX10_worth_111 : decode cX10_worth 111 = .ok (.isub, 1) := by decide +kernel
theorem dX10_worth_112 : decode cX10_worth 112 = .ok (.iadd, 1) := by decide +kernel
theorem dX10_worth_113 : decode cX10_worth 113 = .ok (.istore 4, 2) := by decide +kernel
theorem dX10_worth_115 : decode cX10_worth 115 = .ok (.iinc 5 1, 3) := by decide +kernel
theorem dX10_worth_118 : decode cX10_worth 118 = .ok (.goto (-112), 3) := by decide +kernel
theorem dX10_worth_121 : decode cX10_worth 121 = .ok (.iload 4, 2) := by decide +kernel
theorem dX10_worth_123 : decode cX10_worth 123 = .ok (.ireturn, 1) := by decide +kernel
theorem dX10_sweep_0 : decode cX10_sweep 0 = .ok (.iload_n 1, 1) := by decide +kernel
theorem dX10_sweep_1 : decode cX10_sweep 1 = .ok (.iconst 1, 1) := by decide +kernel
theorem dX10_sweep_2 : decode cX10_sweep 2 = .ok (.ldc 205, 2) := by decide +kernel
theorem dX10_sweep_4 : decode cX10_sweep 4 = .ok (.invokestatic 87, 3) := by decide +kernel
theorem dX10_sweep_7 : decode cX10_sweep 7 = .ok (.ifCond .eq 47, 3) := by decide +kernel
theorem dX10_sweep_10 : decode cX10_sweep 10 = .ok (.iload_n 2, 1) := by decide +kernel
theorem dX10_sweep_11 : decode cX10_sweep 11 = .ok (.iconst 0, 1) := by decide +kernel
theorem dX10_sweep_12 : decode cX10_sweep 12 = .ok (.sipush 9999, 3) := by decide +kernel
theorem dX10_sweep_15 : decode cX10_sweep 15 = .ok (.invokestatic 87, 3) := by decide +kernel
theorem dX10_sweep_18 : decode cX10_sweep 18 = .ok (.ifCond .eq 36, 3) := by decide +kernel
theorem dX10_sweep_21 : decode cX10_sweep 21 = .ok (.iload_n 3, 1) := by decide +kernel
theorem dX10_sweep_22 : decode cX10_sweep 22 = .ok (.iconst 1, 1) := by decide +kernel
theorem dX10_sweep_23 : decode cX10_sweep 23 = .ok (.iconst 4, 1) := by decide +kernel
theorem dX10_sweep_24 : decode cX10_sweep 24 = .ok (.invokestatic 87, 3) := by decide +kernel
theorem dX10_sweep_27 : decode cX10_sweep 27 = .ok (.ifCond .eq 27, 3) := by decide +kernel
theorem dX10_sweep_30 : decode cX10_sweep 30 = .ok (.iload 4, 2) := by decide +kernel
theorem dX10_sweep_32 : decode cX10_sweep 32 = .ok (.iconst 1, 1) := by decide +kernel
theorem dX10_sweep_33 : decode cX10_sweep 33 = .ok (.sipush 240, 3) := by decide +kernel
theorem dX10_sweep_36 : decode cX10_sweep 36 = .ok (.invokestatic 87, 3) := by decide +kernel
theorem dX10_sweep_39 : decode cX10_sweep 39 = .ok (.ifCond .eq 15, 3) := by decide +kernel
theorem dX10_sweep_42 : decode cX10_sweep 42 = .ok (.iload_n 2, 1) := by decide +kernel
theorem dX10_sweep_43 : decode cX10_sweep 43 = .ok (.iload_n 3, 1) := by decide +kernel
theorem dX10_sweep_44 : decode cX10_sweep 44 = .ok (.iload 4, 2) := by decide +kernel
theorem dX10_sweep_46 : decode cX10_sweep 46 = .ok (.imul, 1) := by decide +kernel
theorem dX10_sweep_47 : decode cX10_sweep 47 = .ok (.iadd, 1) := by decide +kernel
theorem dX10_sweep_48 : decode cX10_sweep 48 = .ok (.sipush 10000, 3) := by decide +kernel
theorem dX10_sweep_51 : decode cX10_sweep 51 = .ok (.if_icmp .le 5, 3) := by decide +kernel
theorem dX10_sweep_54 : decode cX10_sweep 54 = .ok (.iconst (-1), 1) := by decide +kernel
theorem dX10_sweep_55 : decode cX10_sweep 55 = .ok (.ireturn, 1) := by decide +kernel
theorem dX10_sweep_56 : decode cX10_sweep 56 = .ok (.iconst 0, 1) := by decide +kernel
theorem dX10_sweep_57 : decode cX10_sweep 57 = .ok (.istore 5, 2) := by decide +kernel
theorem dX10_sweep_59 : decode cX10_sweep 59 = .ok (.iconst 0, 1) := by decide +kernel
theorem dX10_sweep_60 : decode cX10_sweep 60 = .ok (.istore 6, 2) := by decide +kernel
theorem dX10_sweep_62 : decode cX10_sweep 62 = .ok (.iload 6, 2) := by decide +kernel
theorem dX10_sweep_64 : decode cX10_sweep 64 = .ok (.bipush 16, 2) := by decide +kernel
theorem dX10_sweep_66 : decode cX10_sweep 66 = .ok (.if_icmp .ge 33, 3) := by decide +kernel
theorem dX10_sweep_69 : decode cX10_sweep 69 = .ok (.iload_n 1, 1) := by decide +kernel
theorem dX10_sweep_70 : decode cX10_sweep 70 = .ok (.iload 6, 2) := by decide +kernel
theorem dX10_sweep_72 : decode cX10_sweep 72 = .ok (.ishr, 1) := by decide +kernel
theorem dX10_sweep_73 : decode cX10_sweep 73 = .ok (.iconst 1, 1) := by decide +kernel
theorem dX10_sweep_74 : decode cX10_sweep 74 = .ok (.iand, 1) := by decide +kernel
theorem dX10_sweep_75 : decode cX10_sweep 75 = .ok (.ifCond .ne 6, 3) := by decide +kernel
theorem dX10_sweep_78 : decode cX10_sweep 78 = .ok (.goto 15, 3) := by decide +kernel
theorem dX10_sweep_81 : decode cX10_sweep 81 = .ok (.aload_n 0, 1) := by decide +kernel
theorem dX10_sweep_82 : decode cX10_sweep 82 = .ok (.getfield 84, 3) := by decide +kernel
theorem dX10_sweep_85 : decode cX10_sweep 85 = .ok (.iload 5, 2) := by decide +kernel
theorem dX10_sweep_87 : decode cX10_sweep 87 = .ok (.iload 6, 2) := by decide +kernel
theorem dX10_sweep_89 : decode cX10_sweep 89 = .ok (.iastore, 1) := by decide +kernel
theorem dX10_sweep_90 : decode cX10_sweep 90 = .ok (.iinc 5 1, 3) := by decide +kernel
theorem dX10_sweep_93 : decode cX10_sweep 93 = .ok (.iinc 6 1, 3) := by decide +kernel
theorem dX10_sweep_96 : decode cX10_sweep 96 = .ok (.goto (-34), 3) := by decide +kernel
theorem dX10_sweep_99 : decode cX10_sweep 99 = .ok (.iconst 0, 1) := by decide +kernel
theorem dX10_sweep_100 : decode cX10_sweep 100 = .ok (.istore 6, 2) := by decide +kernel
theorem dX10_sweep_102 : decode cX10_sweep 102 = .ok (.iload 6, 2) := by decide +kernel
theorem dX10_sweep_104 : decode cX10_sweep 104 = .ok (.iload_n 3, 1) := by decide +kernel
theorem dX10_sweep_105 : decode cX10_sweep 105 = .ok (.if_icmp .ge 59, 3) := by decide +kernel
theorem dX10_sweep_108 : decode cX10_sweep 108 = .ok (.iconst 0, 1) := by decide +kernel
theorem dX10_sweep_109 : decode cX10_sweep 109 = .ok (.istore 7, 2) := by decide +kernel
theorem dX10_sweep_111 : decode cX10_sweep 111 = .ok (.iload 7, 2) := by decide +kernel
theorem dX10_sweep_113 : decode cX10_sweep 113 = .ok (.bipush 16, 2) := by decide +kernel
theorem dX10_sweep_115 : decode cX10_sweep 115 = .ok (.if_icmp .ge 35, 3) := by decide +kernel
theorem dX10_sweep_118 : decode cX10_sweep 118 = .ok (.aload_n 0, 1) := by decide +kernel
theorem dX10_sweep_119 : decode cX10_sweep 119 = .ok (.getfield 81, 3) := by decide +kernel
theorem dX10_sweep_122 : decode cX10_sweep 122 = .ok (.bipush 16, 2) := by decide +kernel
theorem dX10_sweep_124 : decode cX10_sweep 124 = .ok (.iload 6, 2) := by decide +kernel
theorem dX10_sweep_126 : decode cX10_sweep 126 = .ok (.imul, 1) := by decide +kernel
theorem dX10_sweep_127 : decode cX10_sweep 127 = .ok (.iload 7, 2) := by decide +kernel
theorem dX10_sweep_129 : decode cX10_sweep 129 = .ok (.iadd, 1) := by decide +kernel
theorem dX10_sweep_130 : decode cX10_sweep 130 = .ok (.aload_n 0, 1) := by decide +kernel
theorem dX10_sweep_131 : decode cX10_sweep 131 = .ok (.iload 7, 2) := by decide +kernel
theorem dX10_sweep_133 : decode cX10_sweep 133 = .ok (.iload_n 2, 1) := by decide +kernel
theorem dX10_sweep_134 : decode cX10_sweep 134 = .ok (.iload 6, 2) := by decide +kernel
theorem dX10_sweep_136 : decode cX10_sweep 136 = .ok (.iload 4, 2) := by decide +kernel
theorem dX10_sweep_138 : decode cX10_sweep 138 = .ok (.imul, 1) := by decide +kernel
theorem dX10_sweep_139 : decode cX10_sweep 139 = .ok (.iadd, 1) := by decide +kernel
theorem dX10_sweep_140 : decode cX10_sweep 140 = .ok (.invokevirtual 206, 3) := by decide +kernel
theorem dX10_sweep_143 : decode cX10_sweep 143 = .ok (.iastore, 1) := by decide +kernel
theorem dX10_sweep_144 : decode cX10_sweep 144 = .ok (.iinc 7 1, 3) := by decide +kernel
theorem dX10_sweep_147 : decode cX10_sweep 147 = .ok (.goto (-36), 3) := by decide +kernel
theorem dX10_sweep_150 : decode cX10_sweep 150 = .ok (.aload_n 0, 1) := by decide +kernel
theorem dX10_sweep_151 : decode cX10_sweep 151 = .ok (.getfield 78, 3) := by decide +kernel
theorem dX10_sweep_154 : decode cX10_sweep 154 = .ok (.iload 6, 2) := by decide +kernel
theorem dX10_sweep_156 : decode cX10_sweep 156 = .ok (.iconst 0, 1) := by decide +kernel
theorem dX10_sweep_157 : decode cX10_sweep 157 = .ok (.iastore, 1) := by decide +kernel
theorem dX10_sweep_158 : decode cX10_sweep 158 = .ok (.iinc 6 1, 3) := by decide +kernel
theorem dX10_sweep_161 : decode cX10_sweep 161 = .ok (.goto (-59), 3) := by decide +kernel
theorem dX10_sweep_164 : decode cX10_sweep 164 = .ok (.iconst (-1), 1) := by decide +kernel
theorem dX10_sweep_165 : decode cX10_sweep 165 = .ok (.istore 6, 2) := by decide +kernel
theorem dX10_sweep_167 : decode cX10_sweep 167 = .ok (.iconst 1, 1) := by decide +kernel
theorem dX10_sweep_168 : decode cX10_sweep 168 = .ok (.istore 7, 2) := by decide +kernel
theorem dX10_sweep_170 : decode cX10_sweep 170 = .ok (.iload 7, 2) := by decide +kernel
theorem dX10_sweep_172 : decode cX10_sweep 172 = .ok (.ifCond .eq 132, 3) := by decide +kernel
theorem dX10_sweep_175 : decode cX10_sweep 175 = .ok (.aload_n 0, 1) := by decide +kernel
theorem dX10_sweep_176 : decode cX10_sweep 176 = .ok (.iload_n 3, 1) := by decide +kernel
theorem dX10_sweep_177 : decode cX10_sweep 177 = .ok (.iload_n 2, 1) := by decide +kernel
theorem dX10_sweep_178 : decode cX10_sweep 178 = .ok (.iload 4, 2) := by decide +kernel
theorem dX10_sweep_180 : decode cX10_sweep 180 = .ok (.invokevirtual 209, 3) := by decide +kernel
theorem dX10_sweep_183 : decode cX10_sweep 183 = .ok (.istore 8, 2) := by decide +kernel
theorem dX10_sweep_185 : decode cX10_sweep 185 = .ok (.iload 8, 2) := by decide +kernel
theorem dX10_sweep_187 : decode cX10_sweep 187 = .ok (.iload 6, 2) := by decide +kernel
theorem dX10_sweep_189 : decode cX10_sweep 189 = .ok (.if_icmp .le 46, 3) := by decide +kernel
theorem dX10_sweep_192 : decode cX10_sweep 192 = .ok (.iload 8, 2) := by decide +kernel
theorem dX10_sweep_194 : decode cX10_sweep 194 = .ok (.istore 6, 2) := by decide +kernel
theorem dX10_sweep_196 : decode cX10_sweep 196 = .ok (.aload_n 0, 1) := by decide +kernel
theorem dX10_sweep_197 : decode cX10_sweep 197 = .ok (.iload_n 3, 1) := by decide +kernel
theorem dX10_sweep_198 : decode cX10_sweep 198 = .ok (.putfield 213, 3) := by decide +kernel
theorem dX10_sweep_201 : decode cX10_sweep 201 = .ok (.iconst 0, 1) := by decide +kernel
theorem dX10_sweep_202 : decode cX10_sweep 202 = .ok (.istore 9, 2) := by decide +kernel
theorem dX10_sweep_204 : decode cX10_sweep 204 = .ok (.iload 9, 2) := by decide +kernel
theorem dX10_sweep_206 : decode cX10_sweep 206 = .ok (.iload_n 3, 1) := by decide +kernel
theorem dX10_sweep_207 : decode cX10_sweep 207 = .ok (.if_icmp .ge 28, 3) := by decide +kernel
theorem dX10_sweep_210 : decode cX10_sweep 210 = .ok (.aload_n 0, 1) := by decide +kernel
theorem dX10_sweep_211 : decode cX10_sweep 211 = .ok (.getfield 75, 3) := by decide +kernel
theorem dX10_sweep_214 : decode cX10_sweep 214 = .ok (.iload 9, 2) := by decide +kernel
theorem dX10_sweep_216 : decode cX10_sweep 216 = .ok (.aload_n 0, 1) := by decide +kernel
theorem dX10_sweep_217 : decode cX10_sweep 217 = .ok (.getfield 84, 3) := by decide +kernel
theorem dX10_sweep_220 : decode cX10_sweep 220 = .ok (.aload_n 0, 1) := by decide +kernel
theorem dX10_sweep_221 : decode cX10_sweep 221 = .ok (.getfield 78, 3) := by decide +kernel
theorem dX10_sweep_224 : decode cX10_sweep 224 = .ok (.iload 9, 2) := by decide +kernel
theorem dX10_sweep_226 : decode cX10_sweep 226 = .ok (.iaload, 1) := by decide +kernel
theorem dX10_sweep_227 : decode cX10_sweep 227 = .ok (.iaload, 1) := by decide +kernel
theorem dX10_sweep_228 : decode cX10_sweep 228 = .ok (.iastore, 1) := by decide +kernel
theorem dX10_sweep_229 : decode cX10_sweep 229 = .ok (.iinc 9 1, 3) := by decide +kernel
theorem dX10_sweep_232 : decode cX10_sweep 232 = .ok (.goto (-28), 3) := by decide +kernel
theorem dX10_sweep_235 : decode cX10_sweep 235 = .ok (.iload_n 3, 1) := by decide +kernel
theorem dX10_sweep_236 : decode cX10_sweep 236 = .ok (.iconst 1, 1) := by decide +kernel
theorem dX10_sweep_237 : decode cX10_sweep 237 = .ok (.isub, 1) := by decide +kernel
theorem dX10_sweep_238 : decode cX10_sweep 238 = .ok (.istore 9, 2) := by decide +kernel
theorem dX10_sweep_240 : decode cX10_sweep 240 = .ok (.iload 9, 2) := by decide +kernel
theorem dX10_sweep_242 : decode cX10_sweep 242 = .ok (.ifCond .lt 31, 3) := by decide +kernel
theorem dX10_sweep_245 : decode cX10_sweep 245 = .ok (.aload_n 0, 1) := by decide +kernel
theorem dX10_sweep_246 : decode cX10_sweep 246 = .ok (.getfield 78, 3) := by decide +kernel
theorem dX10_sweep_249 : decode cX10_sweep 249 = .ok (.iload 9, 2) := by decide +kernel
theorem dX10_sweep_251 : decode cX10_sweep 251 = .ok (.iaload, 1) := by decide +kernel
theorem dX10_sweep_252 : decode cX10_sweep 252 = .ok (.iload 5, 2) := by decide +kernel
theorem dX10_sweep_254 : decode cX10_sweep 254 = .ok (.iconst 1, 1) := by decide +kernel
theorem dX10_sweep_255 : decode cX10_sweep 255 = .ok (.isub, 1) := by decide +kernel
theorem dX10_sweep_256 : decode cX10_sweep 256 = .ok (.if_icmp .ne 17, 3) := by decide +kernel
theorem dX10_sweep_259 : decode cX10_sweep 259 = .ok (.aload_n 0, 1) := by decide +kernel
theorem dX10_sweep_260 : decode cX10_sweep 260 = .ok (.getfield 78, 3) := by decide +kernel
theorem dX10_sweep_263 : decode cX10_sweep 263 = .ok (.iload 9, 2) := by decide +kernel
theorem dX10_sweep_265 : decode cX10_sweep 265 = .ok (.iconst 0, 1) := by decide +kernel
theorem dX10_sweep_266 : decode cX10_sweep 266 = .ok (.iastore, 1) := by decide +kernel
theorem dX10_sweep_267 : decode cX10_sweep 267 = .ok (.iinc 9 (-1), 3) := by decide +kernel
theorem dX10_sweep_270 : decode cX10_sweep 270 = .ok (.goto (-30), 3) := by decide +kernel
theorem dX10_sweep_273 : decode cX10_sweep 273 = .ok (.iload 9, 2) := by decide +kernel
theorem dX10_sweep_275 : decode cX10_sweep 275 = .ok (.ifCond .lt 7, 3) := by decide +kernel
theorem dX10_sweep_278 : decode cX10_sweep 278 = .ok (.iconst 1, 1) := by decide +kernel
theorem dX10_sweep_279 : decode cX10_sweep 279 = .ok (.goto 4, 3) := by decide +kernel
theorem dX10_sweep_282 : decode cX10_sweep 282 = .ok (.iconst 0, 1) := by decide +kernel
theorem dX10_sweep_283 : decode cX10_sweep 283 = .ok (.istore 7, 2) := by decide +kernel
theorem dX10_sweep_285 : decode cX10_sweep 285 = .ok (.iload 7, 2) := by decide +kernel
theorem dX10_sweep_287 : decode cX10_sweep 287 = .ok (.ifCond .eq 14, 3) := by decide +kernel
theorem dX10_sweep_290 : decode cX10_sweep 290 = .ok (.aload_n 0, 1) := by decide +kernel
theorem dX10_sweep_291 : decode cX10_sweep 291 = .ok (.getfield 78, 3) := by decide +kernel
theorem dX10_sweep_294 : decode cX10_sweep 294 = .ok (.iload 9, 2) := by decide +kernel
theorem dX10_sweep_296 : decode cX10_sweep 296 = .ok (.dup2, 1) := by decide +kernel
theorem dX10_sweep_297 : decode cX10_sweep 297 = .ok (.iaload, 1) := by decide +kernel
theorem dX10_sweep_298 : decode cX10_sweep 298 = .ok (.iconst 1, 1) := by decide +kernel
theorem dX10_sweep_299 : decode cX10_sweep 299 = .ok (.iadd, 1) := by decide +kernel
theorem dX10_sweep_300 : decode cX10_sweep 300 = .ok (.iastore, 1) := by decide +kernel
theorem dX10_sweep_301 : decode cX10_sweep 301 = .ok (.goto (-131), 3) := by decide +kernel
theorem dX10_sweep_304 : decode cX10_sweep 304 = .ok (.iload 6, 2) := by decide +kernel
theorem dX10_sweep_306 : decode cX10_sweep 306 = .ok (.ireturn, 1) := by decide +kernel
theorem dX10_latestAhead_0 : decode cX10_latestAhead 0 = .ok (.iconst (-1), 1) := by decide +kernel
theorem dX10_latestAhead_1 : decode cX10_latestAhead 1 = .ok (.istore_n 3, 1) := by decide +kernel
theorem dX10_latestAhead_2 : decode cX10_latestAhead 2 = .ok (.iconst 0, 1) := by decide +kernel
theorem dX10_latestAhead_3 : decode cX10_latestAhead 3 = .ok (.istore 4, 2) := by decide +kernel
theorem dX10_latestAhead_5 : decode cX10_latestAhead 5 = .ok (.iload 4, 2) := by decide +kernel
theorem dX10_latestAhead_7 : decode cX10_latestAhead 7 = .ok (.aload_n 0, 1) := by decide +kernel
theorem dX10_latestAhead_8 : decode cX10_latestAhead 8 = .ok (.getfield 102, 3) := by decide +kernel
theorem dX10_latestAhead_11 : decode cX10_latestAhead 11 = .ok (.if_icmp .ge 69, 3) := by decide +kernel
theorem dX10_latestAhead_14 : decode cX10_latestAhead 14 = .ok (.aload_n 0, 1) := by decide +kernel
theorem dX10_latestAhead_15 : decode cX10_latestAhead 15 = .ok (.getfield 19, 3) := by decide +kernel
theorem dX10_latestAhead_18 : decode cX10_latestAhead 18 = .ok (.iload 4, 2) := by decide +kernel
theorem dX10_latestAhead_20 : decode cX10_latestAhead 20 = .ok (.iaload, 1) := by decide +kernel
theorem dX10_latestAhead_21 : decode cX10_latestAhead 21 = .ok (.iload_n 1, 1) := by decide +kernel
theorem dX10_latestAhead_22 : decode cX10_latestAhead 22 = .ok (.if_icmp .ne 52, 3) := by decide +kernel
theorem dX10_latestAhead_25 : decode cX10_latestAhead 25 = .ok (.aload_n 0, 1) := by decide +kernel
theorem dX10_latestAhead_26 : decode cX10_latestAhead 26 = .ok (.getfield 22, 3) := by decide +kernel
theorem dX10_latestAhead_29 : decode cX10_latestAhead 29 = .ok (.iload 4, 2) := by decide +kernel
theorem dX10_latestAhead_31 : decode cX10_latestAhead 31 = .ok (.iaload, 1) := by decide +kernel
theorem dX10_latestAhead_32 : decode cX10_latestAhead 32 = .ok (.iload_n 2, 1) := by decide +kernel
theorem dX10_latestAhead_33 : decode cX10_latestAhead 33 = .ok (.if_icmp .lt 6, 3) := by decide +kernel
theorem dX10_latestAhead_36 : decode cX10_latestAhead 36 = .ok (.goto 38, 3) := by decide +kernel
theorem dX10_latestAhead_39 : decode cX10_latestAhead 39 = .ok (.aload_n 0, 1) := by decide +kernel
theorem dX10_latestAhead_40 : decode cX10_latestAhead 40 = .ok (.getfield 25, 3) := by decide +kernel
theorem dX10_latestAhead_43 : decode cX10_latestAhead 43 = .ok (.iload 4, 2) := by decide +kernel
theorem dX10_latestAhead_45 : decode cX10_latestAhead 45 = .ok (.iaload, 1) := by decide +kernel
theorem dX10_latestAhead_46 : decode cX10_latestAhead 46 = .ok (.iload_n 2, 1) := by decide +kernel
theorem dX10_latestAhead_47 : decode cX10_latestAhead 47 = .ok (.if_icmp .ge 13, 3) := by decide +kernel
theorem dX10_latestAhead_50 : decode cX10_latestAhead 50 = .ok (.aload_n 0, 1) := by decide +kernel
theorem dX10_latestAhead_51 : decode cX10_latestAhead 51 = .ok (.getfield 25, 3) := by decide +kernel
theorem dX10_latestAhead_54 : decode cX10_latestAhead 54 = .ok (.iload 4, 2) := by decide +kernel
theorem dX10_latestAhead_56 : decode cX10_latestAhead 56 = .ok (.iaload, 1) := by decide +kernel
theorem dX10_latestAhead_57 : decode cX10_latestAhead 57 = .ok (.goto 6, 3) := by decide +kernel
theorem dX10_latestAhead_60 : decode cX10_latestAhead 60 = .ok (.iload_n 2, 1) := by decide +kernel
theorem dX10_latestAhead_61 : decode cX10_latestAhead 61 = .ok (.iconst 1, 1) := by decide +kernel
theorem dX10_latestAhead_62 : decode cX10_latestAhead 62 = .ok (.isub, 1) := by decide +kernel
theorem dX10_latestAhead_63 : decode cX10_latestAhead 63 = .ok (.istore 5, 2) := by decide +kernel
theorem dX10_latestAhead_65 : decode cX10_latestAhead 65 = .ok (.iload 5, 2) := by decide +kernel
theorem dX10_latestAhead_67 : decode cX10_latestAhead 67 = .ok (.iload_n 3, 1) := by decide +kernel
theorem dX10_latestAhead_68 : decode cX10_latestAhead 68 = .ok (.if_icmp .le 6, 3) := by decide +kernel
theorem dX10_latestAhead_71 : decode cX10_latestAhead 71 = .ok (.iload 5, 2) := by decide +kernel
theorem dX10_latestAhead_73 : decode cX10_latestAhead 73 = .ok (.istore_n 3, 1) := by decide +kernel
theorem dX10_latestAhead_74 : decode cX10_latestAhead 74 = .ok (.iinc 4 1, 3) := by decide +kernel
theorem dX10_latestAhead_77 : decode cX10_latestAhead 77 = .ok (.goto (-72), 3) := by decide +kernel
theorem dX10_latestAhead_80 : decode cX10_latestAhead 80 = .ok (.iload_n 3, 1) := by decide +kernel
theorem dX10_latestAhead_81 : decode cX10_latestAhead 81 = .ok (.ireturn, 1) := by decide +kernel
theorem dX10_slot_0 : decode cX10_slot 0 = .ok (.iload_n 1, 1) := by decide +kernel
theorem dX10_slot_1 : decode cX10_slot 1 = .ok (.iconst 0, 1) := by decide +kernel
theorem dX10_slot_2 : decode cX10_slot 2 = .ok (.aload_n 0, 1) := by decide +kernel
theorem dX10_slot_3 : decode cX10_slot 3 = .ok (.getfield 213, 3) := by decide +kernel
theorem dX10_slot_6 : decode cX10_slot 6 = .ok (.iconst 1, 1) := by decide +kernel
theorem dX10_slot_7 : decode cX10_slot 7 = .ok (.isub, 1) := by decide +kernel
theorem dX10_slot_8 : decode cX10_slot 8 = .ok (.invokestatic 87, 3) := by decide +kernel
theorem dX10_slot_11 : decode cX10_slot 11 = .ok (.ifCond .eq 12, 3) := by decide +kernel
theorem dX10_slot_14 : decode cX10_slot 14 = .ok (.aload_n 0, 1) := by decide +kernel
theorem dX10_slot_15 : decode cX10_slot 15 = .ok (.getfield 75, 3) := by decide +kernel
theorem dX10_slot_18 : decode cX10_slot 18 = .ok (.iload_n 1, 1) := by decide +kernel
theorem dX10_slot_19 : decode cX10_slot 19 = .ok (.iaload, 1) := by decide +kernel
theorem dX10_slot_20 : decode cX10_slot 20 = .ok (.goto 4, 3) := by decide +kernel
theorem dX10_slot_23 : decode cX10_slot 23 = .ok (.iconst (-1), 1) := by decide +kernel
theorem dX10_slot_24 : decode cX10_slot 24 = .ok (.ireturn, 1) := by decide +kernel
theorem dX10_about_0 : decode cX10_about 0 = .ok (.iconst 0, 1) := by decide +kernel
theorem dX10_about_1 : decode cX10_about 1 = .ok (.istore_n 2, 1) := by decide +kernel
theorem dX10_about_2 : decode cX10_about 2 = .ok (.iconst 0, 1) := by decide +kernel
theorem dX10_about_3 : decode cX10_about 3 = .ok (.istore_n 3, 1) := by decide +kernel
theorem dX10_about_4 : decode cX10_about 4 = .ok (.iload_n 3, 1) := by decide +kernel
theorem dX10_about_5 : decode cX10_about 5 = .ok (.aload_n 0, 1) := by decide +kernel
theorem dX10_about_6 : decode cX10_about 6 = .ok (.getfield 105, 3) := by decide +kernel
theorem dX10_about_9 : decode cX10_about 9 = .ok (.if_icmp .ge 26, 3) := by decide +kernel
theorem dX10_about_12 : decode cX10_about 12 = .ok (.iload_n 2, 1) := by decide +kernel
theorem dX10_about_13 : decode cX10_about 13 = .ok (.aload_n 0, 1) := by decide +kernel
theorem dX10_about_14 : decode cX10_about 14 = .ok (.getfield 43, 3) := by decide +kernel
theorem dX10_about_17 : decode cX10_about 17 = .ok (.iload_n 3, 1) := by decide +kernel
theorem dX10_about_18 : decode cX10_about 18 = .ok (.baload, 1) := by decide +kernel
theorem dX10_about_19 : decode cX10_about 19 = .ok (.ifCond .eq 7, 3) := by decide +kernel
theorem dX10_about_22 : decode cX10_about 22 = .ok (.iconst 1, 1) := by decide +kernel
theorem dX10_about_23 : decode cX10_about 23 = .ok (.goto 4, 3) := by decide +kernel
theorem dX10_about_26 : decode cX10_about 26 = .ok (.iconst 0, 1) := by decide +kernel
theorem dX10_about_27 : decode cX10_about 27 = .ok (.iadd, 1) := by decide +kernel
theorem dX10_about_28 : decode cX10_about 28 = .ok (.istore_n 2, 1) := by decide +kernel
theorem dX10_about_29 : decode cX10_about 29 = .ok (.iinc 3 1, 3) := by decide +kernel
theorem dX10_about_32 : decode cX10_about 32 = .ok (.goto (-28), 3) := by decide +kernel
theorem dX10_about_35 : decode cX10_about 35 = .ok (.iload_n 1, 1) := by decide +kernel
theorem dX10_about_36 : decode cX10_about 36 = .ok (.tableswitch 85 0 7 #[48, 53, 58, 63, 68, 73, 78, 83], 48) := by decide +kernel
theorem dX10_about_84 : decode cX10_about 84 = .ok (.aload_n 0, 1) := by decide +kernel
theorem dX10_about_85 : decode cX10_about 85 = .ok (.getfield 91, 3) := by decide +kernel
theorem dX10_about_88 : decode cX10_about 88 = .ok (.ireturn, 1) := by decide +kernel
theorem dX10_about_89 : decode cX10_about 89 = .ok (.aload_n 0, 1) := by decide +kernel
theorem dX10_about_90 : decode cX10_about 90 = .ok (.getfield 102, 3) := by decide +kernel
theorem dX10_about_93 : decode cX10_about 93 = .ok (.ireturn, 1) := by decide +kernel
theorem dX10_about_94 : decode cX10_about 94 = .ok (.aload_n 0, 1) := by decide +kernel
theorem dX10_about_95 : decode cX10_about 95 = .ok (.getfield 105, 3) := by decide +kernel
theorem dX10_about_98 : decode cX10_about 98 = .ok (.ireturn, 1) := by decide +kernel
theorem dX10_about_99 : decode cX10_about 99 = .ok (.aload_n 0, 1) := by decide +kernel
theorem dX10_about_100 : decode cX10_about 100 = .ok (.getfield 186, 3) := by decide +kernel
theorem dX10_about_103 : decode cX10_about 103 = .ok (.ireturn, 1) := by decide +kernel
theorem dX10_about_104 : decode cX10_about 104 = .ok (.aload_n 0, 1) := by decide +kernel
theorem dX10_about_105 : decode cX10_about 105 = .ok (.getfield 50, 3) := by decide +kernel
theorem dX10_about_108 : decode cX10_about 108 = .ok (.ireturn, 1) := by decide +kernel
theorem dX10_about_109 : decode cX10_about 109 = .ok (.aload_n 0, 1) := by decide +kernel
theorem dX10_about_110 : decode cX10_about 110 = .ok (.getfield 54, 3) := by decide +kernel
theorem dX10_about_113 : decode cX10_about 113 = .ok (.ireturn, 1) := by decide +kernel
theorem dX10_about_114 : decode cX10_about 114 = .ok (.aload_n 0, 1) := by decide +kernel
theorem dX10_about_115 : decode cX10_about 115 = .ok (.getfield 139, 3) := by decide +kernel
theorem dX10_about_118 : decode cX10_about 118 = .ok (.ireturn, 1) := by decide +kernel
theorem dX10_about_119 : decode cX10_about 119 = .ok (.iload_n 2, 1) := by decide +kernel
theorem dX10_about_120 : decode cX10_about 120 = .ok (.ireturn, 1) := by decide +kernel
theorem dX10_about_121 : decode cX10_about 121 = .ok (.iconst (-1), 1) := by decide +kernel
theorem dX10_about_122 : decode cX10_about 122 = .ok (.ireturn, 1) := by decide +kernel
