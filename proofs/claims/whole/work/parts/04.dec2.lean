theorem dX10_closesAsset_206 : decode cX10_closesAsset 206 = .ok (.i2l, 1) := by decide +kernel
theorem dX10_closesAsset_207 : decode cX10_closesAsset 207 = .ok (.lcmp, 1) := by decide +kernel
theorem dX10_closesAsset_208 : decode cX10_closesAsset 208 = .ok (.ifCond .le 14, 3) := by decide +kernel
theorem dX10_closesAsset_211 : decode cX10_closesAsset 211 = .ok (.aload_n 0, 1) := by decide +kernel
theorem dX10_closesAsset_212 : decode cX10_closesAsset 212 = .ok (.iload_n 1, 1) := by decide +kernel
theorem dX10_closesAsset_213 : decode cX10_closesAsset 213 = .ok (.bipush 8, 2) := by decide +kernel
theorem dX10_closesAsset_215 : decode cX10_closesAsset 215 = .ok (.invokevirtual 256, 3) := by decide +kernel
theorem dX10_closesAsset_218 : decode cX10_closesAsset 218 = .ok (.i2l, 1) := by decide +kernel
theorem dX10_closesAsset_219 : decode cX10_closesAsset 219 = .ok (.goto 5, 3) := by decide +kernel
theorem dX10_closesAsset_222 : decode cX10_closesAsset 222 = .ok (.lload 7, 2) := by decide +kernel
theorem dX10_closesAsset_224 : decode cX10_closesAsset 224 = .ok (.l2i, 1) := by decide +kernel
theorem dX10_closesAsset_225 : decode cX10_closesAsset 225 = .ok (.istore 9, 2) := by decide +kernel
theorem dX10_closesAsset_227 : decode cX10_closesAsset 227 = .ok (.aload_n 0, 1) := by decide +kernel
theorem dX10_closesAsset_228 : decode cX10_closesAsset 228 = .ok (.iload_n 1, 1) := by decide +kernel
theorem dX10_closesAsset_229 : decode cX10_closesAsset 229 = .ok (.bipush 11, 2) := by decide +kernel
theorem dX10_closesAsset_231 : decode cX10_closesAsset 231 = .ok (.iconst 1, 1) := by decide +kernel
theorem dX10_closesAsset_232 : decode cX10_closesAsset 232 = .ok (.invokevirtual 191, 3) := by decide +kernel
theorem dX10_closesAsset_235 : decode cX10_closesAsset 235 = .ok (.aload_n 0, 1) := by decide +kernel
theorem dX10_closesAsset_236 : decode cX10_closesAsset 236 = .ok (.iload_n 1, 1) := by decide +kernel
theorem dX10_closesAsset_237 : decode cX10_closesAsset 237 = .ok (.bipush 12, 2) := by decide +kernel
theorem dX10_closesAsset_239 : decode cX10_closesAsset 239 = .ok (.iload 9, 2) := by decide +kernel
theorem dX10_closesAsset_241 : decode cX10_closesAsset 241 = .ok (.invokevirtual 191, 3) := by decide +kernel
theorem dX10_closesAsset_244 : decode cX10_closesAsset 244 = .ok (.aload_n 0, 1) := by decide +kernel
theorem dX10_closesAsset_245 : decode cX10_closesAsset 245 = .ok (.iload_n 1, 1) := by decide +kernel
theorem dX10_closesAsset_246 : decode cX10_closesAsset 246 = .ok (.iconst 3, 1) := by decide +kernel
theorem dX10_closesAsset_247 : decode cX10_closesAsset 247 = .ok (.iload 9, 2) := by decide +kernel
theorem dX10_closesAsset_249 : decode cX10_closesAsset 249 = .ok (.invokevirtual 284, 3) := by decide +kernel
theorem dX10_closesAsset_252 : decode cX10_closesAsset 252 = .ok (.iload 6, 2) := by decide +kernel
theorem dX10_closesAsset_254 : decode cX10_closesAsset 254 = .ok (.ifCond .ge 8, 3) := by decide +kernel
theorem dX10_closesAsset_257 : decode cX10_closesAsset 257 = .ok (.iload 5, 2) := by decide +kernel
theorem dX10_closesAsset_259 : decode cX10_closesAsset 259 = .ok (.ifCond .ne 11, 3) := by decide +kernel
theorem dX10_closesAsset_262 : decode cX10_closesAsset 262 = .ok (.aload_n 0, 1) := by decide +kernel
theorem dX10_closesAsset_263 : decode cX10_closesAsset 263 = .ok (.iload_n 1, 1) := by decide +kernel
theorem dX10_closesAsset_264 : decode cX10_closesAsset 264 = .ok (.bipush 9, 2) := by decide +kernel
theorem dX10_closesAsset_266 : decode cX10_closesAsset 266 = .ok (.iconst 1, 1) := by decide +kernel
theorem dX10_closesAsset_267 : decode cX10_closesAsset 267 = .ok (.invokevirtual 191, 3) := by decide +kernel
theorem dX10_closesAsset_270 : decode cX10_closesAsset 270 = .ok (.aload_n 0, 1) := by decide +kernel
theorem dX10_closesAsset_271 : decode cX10_closesAsset 271 = .ok (.iload_n 1, 1) := by decide +kernel
theorem dX10_closesAsset_272 : decode cX10_closesAsset 272 = .ok (.iconst 0, 1) := by decide +kernel
theorem dX10_closesAsset_273 : decode cX10_closesAsset 273 = .ok (.aload_n 0, 1) := by decide +kernel
theorem dX10_closesAsset_274 : decode cX10_closesAsset 274 = .ok (.iload_n 1, 1) := by decide +kernel
theorem dX10_closesAsset_275 : decode cX10_closesAsset 275 = .ok (.iconst 1, 1) := by decide +kernel
theorem dX10_closesAsset_276 : decode cX10_closesAsset 276 = .ok (.invokevirtual 256, 3) := by decide +kernel
theorem dX10_closesAsset_279 : decode cX10_closesAsset 279 = .ok (.invokevirtual 191, 3) := by decide +kernel
theorem dX10_closesAsset_282 : decode cX10_closesAsset 282 = .ok (.return_, 1) := by decide +kernel
theorem dX10_booksFor_0 : decode cX10_booksFor 0 = .ok (.aload_n 0, 1) := by decide +kernel
theorem dX10_booksFor_1 : decode cX10_booksFor 1 = .ok (.iload_n 1, 1) := by decide +kernel
theorem dX10_booksFor_2 : decode cX10_booksFor 2 = .ok (.bipush 10, 2) := by decide +kernel
theorem dX10_booksFor_4 : decode cX10_booksFor 4 = .ok (.aload_n 0, 1) := by decide +kernel
theorem dX10_booksFor_5 : decode cX10_booksFor 5 = .ok (.iload_n 1, 1) := by decide +kernel
theorem dX10_booksFor_6 : decode cX10_booksFor 6 = .ok (.bipush 10, 2) := by decide +kernel
theorem dX10_booksFor_8 : decode cX10_booksFor 8 = .ok (.invokevirtual 256, 3) := by decide +kernel
theorem dX10_booksFor_11 : decode cX10_booksFor 11 = .ok (.iload_n 3, 1) := by decide +kernel
theorem dX10_booksFor_12 : decode cX10_booksFor 12 = .ok (.iadd, 1) := by decide +kernel
theorem dX10_booksFor_13 : decode cX10_booksFor 13 = .ok (.invokevirtual 191, 3) := by decide +kernel
theorem dX10_booksFor_16 : decode cX10_booksFor 16 = .ok (.aload_n 0, 1) := by decide +kernel
theorem dX10_booksFor_17 : decode cX10_booksFor 17 = .ok (.aload_n 0, 1) := by decide +kernel
theorem dX10_booksFor_18 : decode cX10_booksFor 18 = .ok (.iload_n 1, 1) := by decide +kernel
theorem dX10_booksFor_19 : decode cX10_booksFor 19 = .ok (.iconst 0, 1) := by decide +kernel
theorem dX10_booksFor_20 : decode cX10_booksFor 20 = .ok (.invokevirtual 256, 3) := by decide +kernel
theorem dX10_booksFor_23 : decode cX10_booksFor 23 = .ok (.iload_n 2, 1) := by decide +kernel
theorem dX10_booksFor_24 : decode cX10_booksFor 24 = .ok (.iload_n 3, 1) := by decide +kernel
theorem dX10_booksFor_25 : decode cX10_booksFor 25 = .ok (.iload_n 1, 1) := by decide +kernel
theorem dX10_booksFor_26 : decode cX10_booksFor 26 = .ok (.invokevirtual 252, 3) := by decide +kernel
theorem dX10_booksFor_29 : decode cX10_booksFor 29 = .ok (.return_, 1) := by decide +kernel
theorem dX10_worthBy_0 : decode cX10_worthBy 0 = .ok (.aload_n 0, 1) := by decide +kernel
theorem dX10_worthBy_1 : decode cX10_worthBy 1 = .ok (.aload_n 0, 1) := by decide +kernel
theorem dX10_worthBy_2 : decode cX10_worthBy 2 = .ok (.iload_n 1, 1) := by decide +kernel
theorem dX10_worthBy_3 : decode cX10_worthBy 3 = .ok (.iconst 0, 1) := by decide +kernel
theorem dX10_worthBy_4 : decode cX10_worthBy 4 = .ok (.invokevirtual 256, 3) := by decide +kernel
theorem dX10_worthBy_7 : decode cX10_worthBy 7 = .ok (.aload_n 0, 1) := by decide +kernel
theorem dX10_worthBy_8 : decode cX10_worthBy 8 = .ok (.invokevirtual 233, 3) := by decide +kernel
theorem dX10_worthBy_11 : decode cX10_worthBy 11 = .ok (.invokevirtual 291, 3) := by decide +kernel
theorem dX10_worthBy_14 : decode cX10_worthBy 14 = .ok (.istore_n 3, 1) := by decide +kernel
theorem dX10_worthBy_15 : decode cX10_worthBy 15 = .ok (.aload_n 0, 1) := by decide +kernel
theorem dX10_worthBy_16 : decode cX10_worthBy 16 = .ok (.iconst 0, 1) := by decide +kernel
theorem dX10_worthBy_17 : decode cX10_worthBy 17 = .ok (.invokevirtual 174, 3) := by decide +kernel
theorem dX10_worthBy_20 : decode cX10_worthBy 20 = .ok (.iconst 4, 1) := by decide +kernel
theorem dX10_worthBy_21 : decode cX10_worthBy 21 = .ok (.irem, 1) := by decide +kernel
theorem dX10_worthBy_22 : decode cX10_worthBy 22 = .ok (.istore 4, 2) := by decide +kernel
theorem dX10_worthBy_24 : decode cX10_worthBy 24 = .ok (.aload_n 0, 1) := by decide +kernel
theorem dX10_worthBy_25 : decode cX10_worthBy 25 = .ok (.iload_n 1, 1) := by decide +kernel
theorem dX10_worthBy_26 : decode cX10_worthBy 26 = .ok (.aload_n 0, 1) := by decide +kernel
theorem dX10_worthBy_27 : decode cX10_worthBy 27 = .ok (.invokevirtual 233, 3) := by decide +kernel
theorem dX10_worthBy_30 : decode cX10_worthBy 30 = .ok (.invokevirtual 270, 3) := by decide +kernel
theorem dX10_worthBy_33 : decode cX10_worthBy 33 = .ok (.ifCond .ne 27, 3) := by decide +kernel
theorem dX10_worthBy_36 : decode cX10_worthBy 36 = .ok (.iload_n 2, 1) := by decide +kernel
theorem dX10_worthBy_37 : decode cX10_worthBy 37 = .ok (.ifCond .ne 12, 3) := by decide +kernel
theorem dX10_worthBy_40 : decode cX10_worthBy 40 = .ok (.aload_n 0, 1) := by decide +kernel
theorem dX10_worthBy_41 : decode cX10_worthBy 41 = .ok (.getfield 32, 3) := by decide +kernel
theorem dX10_worthBy_44 : decode cX10_worthBy 44 = .ok (.iconst 1, 1) := by decide +kernel
theorem dX10_worthBy_45 : decode cX10_worthBy 45 = .ok (.iaload, 1) := by decide +kernel
theorem dX10_worthBy_46 : decode cX10_worthBy 46 = .ok (.goto 13, 3) := by decide +kernel
theorem dX10_worthBy_49 : decode cX10_worthBy 49 = .ok (.iload_n 2, 1) := by decide +kernel
theorem dX10_worthBy_50 : decode cX10_worthBy 50 = .ok (.iconst 1, 1) := by decide +kernel
theorem dX10_worthBy_51 : decode cX10_worthBy 51 = .ok (.if_icmp .ne 7, 3) := by decide +kernel
theorem dX10_worthBy_54 : decode cX10_worthBy 54 = .ok (.iconst 0, 1) := by decide +kernel
theorem dX10_worthBy_55 : decode cX10_worthBy 55 = .ok (.goto 4, 3) := by decide +kernel
theorem dX10_worthBy_58 : decode cX10_worthBy 58 = .ok (.iload_n 3, 1) := by decide +kernel
theorem dX10_worthBy_59 : decode cX10_worthBy 59 = .ok (.ireturn, 1) := by decide +kernel
theorem dX10_worthBy_60 : decode cX10_worthBy 60 = .ok (.lconst 0, 1) := by decide +kernel
theorem dX10_worthBy_61 : decode cX10_worthBy 61 = .ok (.lstore 5, 2) := by decide +kernel
theorem dX10_worthBy_63 : decode cX10_worthBy 63 = .ok (.iconst 0, 1) := by decide +kernel
theorem dX10_worthBy_64 : decode cX10_worthBy 64 = .ok (.istore 7, 2) := by decide +kernel
theorem dX10_worthBy_66 : decode cX10_worthBy 66 = .ok (.iload 7, 2) := by decide +kernel
theorem dX10_worthBy_68 : decode cX10_worthBy 68 = .ok (.iconst 4, 1) := by decide +kernel
theorem dX10_worthBy_69 : decode cX10_worthBy 69 = .ok (.if_icmp .ge 64, 3) := by decide +kernel
theorem dX10_worthBy_72 : decode cX10_worthBy 72 = .ok (.iload 7, 2) := by decide +kernel
theorem dX10_worthBy_74 : decode cX10_worthBy 74 = .ok (.iload 4, 2) := by decide +kernel
theorem dX10_worthBy_76 : decode cX10_worthBy 76 = .ok (.if_icmp .ge 16, 3) := by decide +kernel
theorem dX10_worthBy_79 : decode cX10_worthBy 79 = .ok (.aload_n 0, 1) := by decide +kernel
theorem dX10_worthBy_80 : decode cX10_worthBy 80 = .ok (.iload_n 1, 1) := by decide +kernel
theorem dX10_worthBy_81 : decode cX10_worthBy 81 = .ok (.bipush 13, 2) := by decide +kernel
theorem dX10_worthBy_83 : decode cX10_worthBy 83 = .ok (.iload 7, 2) := by decide +kernel
theorem dX10_worthBy_85 : decode cX10_worthBy 85 = .ok (.iadd, 1) := by decide +kernel
theorem dX10_worthBy_86 : decode cX10_worthBy 86 = .ok (.invokevirtual 256, 3) := by decide +kernel
theorem dX10_worthBy_89 : decode cX10_worthBy 89 = .ok (.goto 4, 3) := by decide +kernel
theorem dX10_worthBy_92 : decode cX10_worthBy 92 = .ok (.iload_n 2, 1) := by decide +kernel
theorem dX10_worthBy_93 : decode cX10_worthBy 93 = .ok (.istore 8, 2) := by decide +kernel
theorem dX10_worthBy_95 : decode cX10_worthBy 95 = .ok (.lload 5, 2) := by decide +kernel
theorem dX10_worthBy_97 : decode cX10_worthBy 97 = .ok (.iload 8, 2) := by decide +kernel
theorem dX10_worthBy_99 : decode cX10_worthBy 99 = .ok (.ifCond .ne 13, 3) := by decide +kernel
theorem dX10_worthBy_102 : decode cX10_worthBy 102 = .ok (.aload_n 0, 1) := by decide +kernel
theorem dX10_worthBy_103 : decode cX10_worthBy 103 = .ok (.getfield 32, 3) := by decide +kernel
theorem dX10_worthBy_106 : decode cX10_worthBy 106 = .ok (.iconst 1, 1) := by decide +kernel
theorem dX10_worthBy_107 : decode cX10_worthBy 107 = .ok (.iaload, 1) := by decide +kernel
theorem dX10_worthBy_108 : decode cX10_worthBy 108 = .ok (.i2l, 1) := by decide +kernel
theorem dX10_worthBy_109 : decode cX10_worthBy 109 = .ok (.goto 15, 3) := by decide +kernel
theorem dX10_worthBy_112 : decode cX10_worthBy 112 = .ok (.iload 8, 2) := by decide +kernel
theorem dX10_worthBy_114 : decode cX10_worthBy 114 = .ok (.iconst 1, 1) := by decide +kernel
theorem dX10_worthBy_115 : decode cX10_worthBy 115 = .ok (.if_icmp .ne 7, 3) := by decide +kernel
theorem dX10_worthBy_118 : decode cX10_worthBy 118 = .ok (.lconst 0, 1) := by decide +kernel
theorem dX10_worthBy_119 : decode cX10_worthBy 119 = .ok (.goto 5, 3) := by decide +kernel
theorem dX10_worthBy_122 : decode cX10_worthBy 122 = .ok (.iload_n 3, 1) := by decide +kernel
theorem dX10_worthBy_123 : decode cX10_worthBy 123 = .ok (.i2l, 1) := by decide +kernel
theorem dX10_worthBy_124 : decode cX10_worthBy 124 = .ok (.ladd, 1) := by decide +kernel
theorem dX10_worthBy_125 : decode cX10_worthBy 125 = .ok (.lstore 5, 2) := by decide +kernel
theorem dX10_worthBy_127 : decode cX10_worthBy 127 = .ok (.iinc 7 1, 3) := by decide +kernel
theorem dX10_worthBy_130 : decode cX10_worthBy 130 = .ok (.goto (-64), 3) := by decide +kernel
theorem dX10_worthBy_133 : decode cX10_worthBy 133 = .ok (.aload_n 0, 1) := by decide +kernel
theorem dX10_worthBy_134 : decode cX10_worthBy 134 = .ok (.lload 5, 2) := by decide +kernel
theorem dX10_worthBy_136 : decode cX10_worthBy 136 = .ok (.ldc2_w 294, 3) := by decide +kernel
theorem dX10_worthBy_139 : decode cX10_worthBy 139 = .ok (.invokevirtual 267, 3) := by decide +kernel
theorem dX10_worthBy_142 : decode cX10_worthBy 142 = .ok (.l2i, 1) := by decide +kernel
theorem dX10_worthBy_143 : decode cX10_worthBy 143 = .ok (.ireturn, 1) := by decide +kernel
theorem dX10_isQuarter_0 : decode cX10_isQuarter 0 = .ok (.iload_n 1, 1) := by decide +kernel
theorem dX10_isQuarter_1 : decode cX10_isQuarter 1 = .ok (.ifCond .lt 13, 3) := by decide +kernel
theorem dX10_isQuarter_4 : decode cX10_isQuarter 4 = .ok (.iload_n 1, 1) := by decide +kernel
theorem dX10_isQuarter_5 : decode cX10_isQuarter 5 = .ok (.bipush 64, 2) := by decide +kernel
theorem dX10_isQuarter_7 : decode cX10_isQuarter 7 = .ok (.if_icmp .ge 7, 3) := by decide +kernel
theorem dX10_isQuarter_10 : decode cX10_isQuarter 10 = .ok (.iconst 1, 1) := by decide +kernel
theorem dX10_isQuarter_11 : decode cX10_isQuarter 11 = .ok (.goto 4, 3) := by decide +kernel
theorem dX10_isQuarter_14 : decode cX10_isQuarter 14 = .ok (.iconst 0, 1) := by decide +kernel
theorem dX10_isQuarter_15 : decode cX10_isQuarter 15 = .ok (.ireturn, 1) := by decide +kernel
theorem dX10_sale_0 : decode cX10_sale 0 = .ok (.aload_n 0, 1) := by decide +kernel
theorem dX10_sale_1 : decode cX10_sale 1 = .ok (.iconst 0, 1) := by decide +kernel
theorem dX10_sale_2 : decode cX10_sale 2 = .ok (.putfield 49, 3) := by decide +kernel
theorem dX10_sale_5 : decode cX10_sale 5 = .ok (.aload_n 0, 1) := by decide +kernel
theorem dX10_sale_6 : decode cX10_sale 6 = .ok (.iload_n 1, 1) := by decide +kernel
theorem dX10_sale_7 : decode cX10_sale 7 = .ok (.invokevirtual 296, 3) := by decide +kernel
theorem dX10_sale_10 : decode cX10_sale 10 = .ok (.ifCond .eq 22, 3) := by decide +kernel
theorem dX10_sale_13 : decode cX10_sale 13 = .ok (.iload_n 2, 1) := by decide +kernel
theorem dX10_sale_14 : decode cX10_sale 14 = .ok (.iconst 0, 1) := by decide +kernel
theorem dX10_sale_15 : decode cX10_sale 15 = .ok (.iconst 1, 1) := by decide +kernel
theorem dX10_sale_16 : decode cX10_sale 16 = .ok (.invokestatic 124, 3) := by decide +kernel
theorem dX10_sale_19 : decode cX10_sale 19 = .ok (.ifCond .eq 13, 3) := by decide +kernel
theorem dX10_sale_22 : decode cX10_sale 22 = .ok (.iload_n 3, 1) := by decide +kernel
theorem dX10_sale_23 : decode cX10_sale 23 = .ok (.iconst 1, 1) := by decide +kernel
theorem dX10_sale_24 : decode cX10_sale 24 = .ok (.ldc 87, 2) := by decide +kernel
theorem dX10_sale_26 : decode cX10_sale 26 = .ok (.invokestatic 124, 3) := by decide +kernel
theorem dX10_sale_29 : decode cX10_sale 29 = .ok (.ifCond .ne 5, 3) := by decide +kernel
theorem dX10_sale_32 : decode cX10_sale 32 = .ok (.iconst (-1), 1) := by decide +kernel
theorem dX10_sale_33 : decode cX10_sale 33 = .ok (.ireturn, 1) := by decide +kernel
theorem dX10_sale_34 : decode cX10_sale 34 = .ok (.aload_n 0, 1) := by decide +kernel
theorem dX10_sale_35 : decode cX10_sale 35 = .ok (.invokevirtual 299, 3) := by decide +kernel
theorem dX10_sale_38 : decode cX10_sale 38 = .ok (.aload_n 0, 1) := by decide +kernel
theorem dX10_sale_39 : decode cX10_sale 39 = .ok (.aload_n 0, 1) := by decide +kernel
theorem dX10_sale_40 : decode cX10_sale 40 = .ok (.iload_n 1, 1) := by decide +kernel
theorem dX10_sale_41 : decode cX10_sale 41 = .ok (.aload_n 0, 1) := by decide +kernel
theorem dX10_sale_42 : decode cX10_sale 42 = .ok (.iconst 0, 1) := by decide +kernel
theorem dX10_sale_43 : decode cX10_sale 43 = .ok (.invokevirtual 174, 3) := by decide +kernel
theorem dX10_sale_46 : decode cX10_sale 46 = .ok (.iload_n 2, 1) := by decide +kernel
theorem dX10_sale_47 : decode cX10_sale 47 = .ok (.invokevirtual 181, 3) := by decide +kernel
theorem dX10_sale_50 : decode cX10_sale 50 = .ok (.iload_n 3, 1) := by decide +kernel
theorem dX10_sale_51 : decode cX10_sale 51 = .ok (.invokevirtual 184, 3) := by decide +kernel
theorem dX10_sale_54 : decode cX10_sale 54 = .ok (.aload_n 0, 1) := by decide +kernel
theorem dX10_sale_55 : decode cX10_sale 55 = .ok (.aload_n 0, 1) := by decide +kernel
theorem dX10_sale_56 : decode cX10_sale 56 = .ok (.iload_n 1, 1) := by decide +kernel
theorem dX10_sale_57 : decode cX10_sale 57 = .ok (.aload_n 0, 1) := by decide +kernel
theorem dX10_sale_58 : decode cX10_sale 58 = .ok (.iconst 0, 1) := by decide +kernel
theorem dX10_sale_59 : decode cX10_sale 59 = .ok (.invokevirtual 174, 3) := by decide +kernel
theorem dX10_sale_62 : decode cX10_sale 62 = .ok (.iload_n 2, 1) := by decide +kernel
theorem dX10_sale_63 : decode cX10_sale 63 = .ok (.invokevirtual 181, 3) := by decide +kernel
theorem dX10_sale_66 : decode cX10_sale 66 = .ok (.invokevirtual 174, 3) := by decide +kernel
theorem dX10_sale_69 : decode cX10_sale 69 = .ok (.ireturn, 1) := by decide +kernel
theorem dX10_buy_0 : decode cX10_buy 0 = .ok (.aload_n 0, 1) := by decide +kernel
theorem dX10_buy_1 : decode cX10_buy 1 = .ok (.iconst 0, 1) := by decide +kernel
theorem dX10_buy_2 : decode cX10_buy 2 = .ok (.putfield 49, 3) := by decide +kernel
theorem dX10_buy_5 : decode cX10_buy 5 = .ok (.aload_n 0, 1) := by decide +kernel
theorem dX10_buy_6 : decode cX10_buy 6 = .ok (.iload_n 1, 1) := by decide +kernel
theorem dX10_buy_7 : decode cX10_buy 7 = .ok (.invokevirtual 296, 3) := by decide +kernel
theorem dX10_buy_10 : decode cX10_buy 10 = .ok (.ifCond .eq 23, 3) := by decide +kernel
theorem dX10_buy_13 : decode cX10_buy 13 = .ok (.iload_n 2, 1) := by decide +kernel
theorem dX10_buy_14 : decode cX10_buy 14 = .ok (.iconst 0, 1) := by decide +kernel
theorem dX10_buy_15 : decode cX10_buy 15 = .ok (.iconst 2, 1) := by decide +kernel
theorem dX10_buy_16 : decode cX10_buy 16 = .ok (.invokestatic 124, 3) := by decide +kernel
theorem dX10_buy_19 : decode cX10_buy 19 = .ok (.ifCond .eq 14, 3) := by decide +kernel
theorem dX10_buy_22 : decode cX10_buy 22 = .ok (.iload_n 3, 1) := by decide +kernel
theorem dX10_buy_23 : decode cX10_buy 23 = .ok (.iconst 1, 1) := by decide +kernel
theorem dX10_buy_24 : decode cX10_buy 24 = .ok (.sipush 9999, 3) := by decide +kernel
theorem dX10_buy_27 : decode cX10_buy 27 = .ok (.invokestatic 124, 3) := by decide +kernel
theorem dX10_buy_30 : decode cX10_buy 30 = .ok (.ifCond .ne 5, 3) := by decide +kernel
theorem dX10_buy_33 : decode cX10_buy 33 = .ok (.iconst (-1), 1) := by decide +kernel
theorem dX10_buy_34 : decode cX10_buy 34 = .ok (.ireturn, 1) := by decide +kernel
theorem dX10_buy_35 : decode cX10_buy 35 = .ok (.aload_n 0, 1) := by decide +kernel
theorem dX10_buy_36 : decode cX10_buy 36 = .ok (.invokevirtual 299, 3) := by decide +kernel
theorem dX10_buy_39 : decode cX10_buy 39 = .ok (.aload_n 0, 1) := by decide +kernel
theorem dX10_buy_40 : decode cX10_buy 40 = .ok (.aload_n 0, 1) := by decide +kernel
theorem dX10_buy_41 : decode cX10_buy 41 = .ok (.iload_n 1, 1) := by decide +kernel
theorem dX10_buy_42 : decode cX10_buy 42 = .ok (.aload_n 0, 1) := by decide +kernel
theorem dX10_buy_43 : decode cX10_buy 43 = .ok (.iconst 0, 1) := by decide +kernel
theorem dX10_buy_44 : decode cX10_buy 44 = .ok (.invokevirtual 174, 3) := by decide +kernel
theorem dX10_buy_47 : decode cX10_buy 47 = .ok (.iconst 2, 1) := by decide +kernel
theorem dX10_buy_48 : decode cX10_buy 48 = .ok (.iload_n 2, 1) := by decide +kernel
theorem dX10_buy_49 : decode cX10_buy 49 = .ok (.iadd, 1) := by decide +kernel
theorem dX10_buy_50 : decode cX10_buy 50 = .ok (.invokevirtual 181, 3) := by decide +kernel
theorem dX10_buy_53 : decode cX10_buy 53 = .ok (.iload_n 3, 1) := by decide +kernel
theorem dX10_buy_54 : decode cX10_buy 54 = .ok (.invokevirtual 184, 3) := by decide +kernel
theorem dX10_buy_57 : decode cX10_buy 57 = .ok (.aload_n 0, 1) := by decide +kernel
theorem dX10_buy_58 : decode cX10_buy 58 = .ok (.aload_n 0, 1) := by decide +kernel
theorem dX10_buy_59 : decode cX10_buy 59 = .ok (.iload_n 1, 1) := by decide +kernel
theorem dX10_buy_60 : decode cX10_buy 60 = .ok (.aload_n 0, 1) := by decide +kernel
theorem dX10_buy_61 : decode cX10_buy 61 = .ok (.iconst 0, 1) := by decide +kernel
theorem dX10_buy_62 : decode cX10_buy 62 = .ok (.invokevirtual 174, 3) := by decide +kernel
theorem dX10_buy_65 : decode cX10_buy 65 = .ok (.iconst 2, 1) := by decide +kernel
theorem dX10_buy_66 : decode cX10_buy 66 = .ok (.iload_n 2, 1) := by decide +kernel
theorem dX10_buy_67 : decode cX10_buy 67 = .ok (.iadd, 1) := by decide +kernel
theorem dX10_buy_68 : decode cX10_buy 68 = .ok (.invokevirtual 181, 3) := by decide +kernel
theorem dX10_buy_71 : decode cX10_buy 71 = .ok (.invokevirtual 174, 3) := by decide +kernel
theorem dX10_buy_74 : decode cX10_buy 74 = .ok (.ireturn, 1) := by decide +kernel
theorem dX10_late_0 : decode cX10_late 0 = .ok (.aload_n 0, 1) := by decide +kernel
theorem dX10_late_1 : decode cX10_late 1 = .ok (.iconst 0, 1) := by decide +kernel
theorem dX10_late_2 : decode cX10_late 2 = .ok (.putfield 49, 3) := by decide +kernel
theorem dX10_late_5 : decode cX10_late 5 = .ok (.aload_n 0, 1) := by decide +kernel
theorem dX10_late_6 : decode cX10_late 6 = .ok (.iload_n 1, 1) := by decide +kernel
theorem dX10_late_7 : decode cX10_late 7 = .ok (.invokevirtual 296, 3) := by decide +kernel
theorem dX10_late_10 : decode cX10_late 10 = .ok (.ifCond .eq 44, 3) := by decide +kernel
theorem dX10_late_13 : decode cX10_late 13 = .ok (.iload_n 2, 1) := by decide +kernel
theorem dX10_late_14 : decode cX10_late 14 = .ok (.iconst 4, 1) := by decide +kernel
theorem dX10_late_15 : decode cX10_late 15 = .ok (.aload_n 0, 1) := by decide +kernel
theorem dX10_late_16 : decode cX10_late 16 = .ok (.invokevirtual 233, 3) := by decide +kernel
theorem dX10_late_19 : decode cX10_late 19 = .ok (.imul, 1) := by decide +kernel
theorem dX10_late_20 : decode cX10_late 20 = .ok (.aload_n 0, 1) := by decide +kernel
theorem dX10_late_21 : decode cX10_late 21 = .ok (.iconst 0, 1) := by decide +kernel
theorem dX10_late_22 : decode cX10_late 22 = .ok (.invokevirtual 174, 3) := by decide +kernel
theorem dX10_late_25 : decode cX10_late 25 = .ok (.iconst 1, 1) := by decide +kernel
theorem dX10_late_26 : decode cX10_late 26 = .ok (.isub, 1) := by decide +kernel
theorem dX10_late_27 : decode cX10_late 27 = .ok (.invokestatic 124, 3) := by decide +kernel
theorem dX10_late_30 : decode cX10_late 30 = .ok (.ifCond .eq 24, 3) := by decide +kernel
theorem dX10_late_33 : decode cX10_late 33 = .ok (.iload_n 3, 1) := by decide +kernel
theorem dX10_late_34 : decode cX10_late 34 = .ok (.iconst 0, 1) := by decide +kernel
theorem dX10_late_35 : decode cX10_late 35 = .ok (.iconst 4, 1) := by decide +kernel
theorem dX10_late_36 : decode cX10_late 36 = .ok (.invokestatic 124, 3) := by decide +kernel
theorem dX10_late_39 : decode cX10_late 39 = .ok (.ifCond .eq 15, 3) := by decide +kernel
theorem dX10_late_42 : decode cX10_late 42 = .ok (.iload 4, 2) := by decide +kernel
theorem dX10_late_44 : decode cX10_late 44 = .ok (.iconst 1, 1) := by decide +kernel
theorem dX10_late_45 : decode cX10_late 45 = .ok (.sipush 9999, 3) := by decide +kernel
theorem dX10_late_48 : decode cX10_late 48 = .ok (.invokestatic 124, 3) := by decide +kernel
theorem dX10_late_51 : decode cX10_late 51 = .ok (.ifCond .ne 5, 3) := by decide +kernel
theorem dX10_late_54 : decode cX10_late 54 = .ok (.iconst (-1), 1) := by decide +kernel
theorem dX10_late_55 : decode cX10_late 55 = .ok (.ireturn, 1) := by decide +kernel
theorem dX10_late_56 : decode cX10_late 56 = .ok (.aload_n 0, 1) := by decide +kernel
theorem dX10_late_57 : decode cX10_late 57 = .ok (.invokevirtual 299, 3) := by decide +kernel
theorem dX10_late_60 : decode cX10_late 60 = .ok (.aload_n 0, 1) := by decide +kernel
theorem dX10_late_61 : decode cX10_late 61 = .ok (.aload_n 0, 1) := by decide +kernel
theorem dX10_late_62 : decode cX10_late 62 = .ok (.iload_n 1, 1) := by decide +kernel
theorem dX10_late_63 : decode cX10_late 63 = .ok (.iload_n 2, 1) := by decide +kernel
theorem dX10_late_64 : decode cX10_late 64 = .ok (.iload_n 3, 1) := by decide +kernel
theorem dX10_late_65 : decode cX10_late 65 = .ok (.invokevirtual 181, 3) := by decide +kernel
theorem dX10_late_68 : decode cX10_late 68 = .ok (.iload 4, 2) := by decide +kernel
theorem dX10_late_70 : decode cX10_late 70 = .ok (.invokevirtual 184, 3) := by decide +kernel
theorem dX10_late_73 : decode cX10_late 73 = .ok (.aload_n 0, 1) := by decide +kernel
theorem dX10_late_74 : decode cX10_late 74 = .ok (.aload_n 0, 1) := by decide +kernel
theorem dX10_late_75 : decode cX10_late 75 = .ok (.iload_n 1, 1) := by decide +kernel
theorem dX10_late_76 : decode cX10_late 76 = .ok (.iload_n 2, 1) := by decide +kernel
theorem dX10_late_77 : decode cX10_late 77 = .ok (.iload_n 3, 1) := by decide +kernel
theorem dX10_late_78 : decode cX10_late 78 = .ok (.invokevirtual 181, 3) := by decide +kernel
theorem dX10_late_81 : decode cX10_late 81 = .ok (.invokevirtual 174, 3) := by decide +kernel
theorem dX10_late_84 : decode cX10_late 84 = .ok (.ireturn, 1) := by decide +kernel
theorem dX10_heads_0 : decode cX10_heads 0 = .ok (.aload_n 0, 1) := by decide +kernel
theorem dX10_heads_1 : decode cX10_heads 1 = .ok (.iconst 0, 1) := by decide +kernel
theorem dX10_heads_2 : decode cX10_heads 2 = .ok (.putfield 49, 3) := by decide +kernel
theorem dX10_heads_5 : decode cX10_heads 5 = .ok (.aload_n 0, 1) := by decide +kernel
theorem dX10_heads_6 : decode cX10_heads 6 = .ok (.iload_n 1, 1) := by decide +kernel
theorem dX10_heads_7 : decode cX10_heads 7 = .ok (.invokevirtual 296, 3) := by decide +kernel
theorem dX10_heads_10 : decode cX10_heads 10 = .ok (.ifCond .eq 23, 3) := by decide +kernel
theorem dX10_heads_13 : decode cX10_heads 13 = .ok (.iload_n 3, 1) := by decide +kernel
theorem dX10_heads_14 : decode cX10_heads 14 = .ok (.iconst 0, 1) := by decide +kernel
theorem dX10_heads_15 : decode cX10_heads 15 = .ok (.sipush 999, 3) := by decide +kernel
theorem dX10_heads_18 : decode cX10_heads 18 = .ok (.invokestatic 124, 3) := by decide +kernel
theorem dX10_heads_21 : decode cX10_heads 21 = .ok (.ifCond .eq 12, 3) := by decide +kernel
theorem dX10_heads_24 : decode cX10_heads 24 = .ok (.iload_n 2, 1) := by decide +kernel
theorem dX10_heads_25 : decode cX10_heads 25 = .ok (.iconst 0, 1) := by decide +kernel
theorem dX10_heads_26 : decode cX10_heads 26 = .ok (.iload_n 3, 1) := by decide +kernel
theorem dX10_heads_27 : decode cX10_heads 27 = .ok (.invokestatic 124, 3) := by decide +kernel
theorem dX10_heads_30 : decode cX10_heads 30 = .ok (.ifCond .ne 5, 3) := by decide +kernel
theorem dX10_heads_33 : decode cX10_heads 33 = .ok (.iconst 0, 1) := by decide +kernel
theorem dX10_heads_34 : decode cX10_heads 34 = .ok (.ireturn, 1) := by decide +kernel
theorem dX10_heads_35 : decode cX10_heads 35 = .ok (.aload_n 0, 1) := by decide +kernel
theorem dX10_heads_36 : decode cX10_heads 36 = .ok (.invokevirtual 299, 3) := by decide +kernel
theorem dX10_heads_39 : decode cX10_heads 39 = .ok (.aload_n 0, 1) := by decide +kernel
theorem dX10_heads_40 : decode cX10_heads 40 = .ok (.sipush 1281, 3) := by decide +kernel
theorem dX10_heads_43 : decode cX10_heads 43 = .ok (.iconst 2, 1) := by decide +kernel
theorem dX10_heads_44 : decode cX10_heads 44 = .ok (.iload_n 1, 1) := by decide +kernel
theorem dX10_heads_45 : decode cX10_heads 45 = .ok (.imul, 1) := by decide +kernel
theorem dX10_heads_46 : decode cX10_heads 46 = .ok (.iadd, 1) := by decide +kernel
theorem dX10_heads_47 : decode cX10_heads 47 = .ok (.iload_n 2, 1) := by decide +kernel
theorem dX10_heads_48 : decode cX10_heads 48 = .ok (.invokevirtual 111, 3) := by decide +kernel
theorem dX10_heads_51 : decode cX10_heads 51 = .ok (.aload_n 0, 1) := by decide +kernel
theorem dX10_heads_52 : decode cX10_heads 52 = .ok (.sipush 1281, 3) := by decide +kernel
theorem dX10_heads_55 : decode cX10_heads 55 = .ok (.iconst 2, 1) := by decide +kernel
theorem dX10_heads_56 : decode cX10_heads 56 = .ok (.iload_n 1, 1) := by decide +kernel
theorem dX10_heads_57 : decode cX10_heads 57 = .ok (.imul, 1) := by decide +kernel
theorem dX10_heads_58 : decode cX10_heads 58 = .ok (.iadd, 1) := by decide +kernel
theorem dX10_heads_59 : decode cX10_heads 59 = .ok (.iconst 1, 1) := by decide +kernel
theorem dX10_heads_60 : decode cX10_heads 60 = .ok (.iadd, 1) := by decide +kernel
theorem dX10_heads_61 : decode cX10_heads 61 = .ok (.iload_n 3, 1) := by decide +kernel
theorem dX10_heads_62 : decode cX10_heads 62 = .ok (.invokevirtual 111, 3) := by decide +kernel
theorem dX10_heads_65 : decode cX10_heads 65 = .ok (.iconst 1, 1) := by decide +kernel
theorem dX10_heads_66 : decode cX10_heads 66 = .ok (.ireturn, 1) := by decide +kernel
theorem dX10_acquire_0 : decode cX10_acquire 0 = .ok (.aload_n 0, 1) := by decide +kernel
theorem dX10_acquire_1 : decode cX10_acquire 1 = .ok (.iconst 0, 1) := by decide +kernel
theorem dX10_acquire_2 : decode cX10_acquire 2 = .ok (.putfield 49, 3) := by decide +kernel
theorem dX10_acquire_5 : decode cX10_acquire 5 = .ok (.aload_n 0, 1) := by decide +kernel
theorem dX10_acquire_6 : decode cX10_acquire 6 = .ok (.iload_n 1, 1) := by decide +kernel
theorem dX10_acquire_7 : decode cX10_acquire 7 = .ok (.invokevirtual 296, 3) := by decide +kernel
theorem dX10_acquire_10 : decode cX10_acquire 10 = .ok (.ifCond .eq 35, 3) := by decide +kernel
theorem dX10_acquire_13 : decode cX10_acquire 13 = .ok (.iload_n 2, 1) := by decide +kernel
theorem dX10_acquire_14 : decode cX10_acquire 14 = .ok (.iconst 0, 1) := by decide +kernel
theorem dX10_acquire_15 : decode cX10_acquire 15 = .ok (.iconst 2, 1) := by decide +kernel
theorem dX10_acquire_16 : decode cX10_acquire 16 = .ok (.invokestatic 124, 3) := by decide +kernel
theorem dX10_acquire_19 : decode cX10_acquire 19 = .ok (.ifCond .eq 26, 3) := by decide +kernel
theorem dX10_acquire_22 : decode cX10_acquire 22 = .ok (.iload_n 3, 1) := by decide +kernel
theorem dX10_acquire_23 : decode cX10_acquire 23 = .ok (.iconst 1, 1) := by decide +kernel
theorem dX10_acquire_24 : decode cX10_acquire 24 = .ok (.ldc 87, 2) := by decide +kernel
theorem dX10_acquire_26 : decode cX10_acquire 26 = .ok (.invokestatic 124, 3) := by decide +kernel
theorem dX10_acquire_29 : decode cX10_acquire 29 = .ok (.ifCond .eq 16, 3) := by decide +kernel
theorem dX10_acquire_32 : decode cX10_acquire 32 = .ok (.iload 4, 2) := by decide +kernel
theorem dX10_acquire_34 : decode cX10_acquire 34 = .ok (.iconst 5, 1) := by decide +kernel
theorem dX10_acquire_35 : decode cX10_acquire 35 = .ok (.if_icmp .eq 12, 3) := by decide +kernel
theorem dX10_acquire_38 : decode cX10_acquire 38 = .ok (.iload 4, 2) := by decide +kernel
theorem dX10_acquire_40 : decode cX10_acquire 40 = .ok (.bipush 10, 2) := by decide +kernel
theorem dX10_acquire_42 : decode cX10_acquire 42 = .ok (.if_icmp .eq 5, 3) := by decide +kernel
theorem dX10_acquire_45 : decode cX10_acquire 45 = .ok (.iconst (-1), 1) := by decide +kernel
theorem dX10_acquire_46 : decode cX10_acquire 46 = .ok (.ireturn, 1) := by decide +kernel
theorem dX10_acquire_47 : decode cX10_acquire 47 = .ok (.aload_n 0, 1) := by decide +kernel
theorem dX10_acquire_48 : decode cX10_acquire 48 = .ok (.sipush 1865, 3) := by decide +kernel
theorem dX10_acquire_51 : decode cX10_acquire 51 = .ok (.invokevirtual 174, 3) := by decide +kernel
theorem dX10_acquire_54 : decode cX10_acquire 54 = .ok (.bipush 8, 2) := by decide +kernel
theorem dX10_acquire_56 : decode cX10_acquire 56 = .ok (.if_icmp .ne 6, 3) := by decide +kernel
theorem dX10_acquire_59 : decode cX10_acquire 59 = .ok (.bipush (-2), 2) := by decide +kernel
theorem dX10_acquire_61 : decode cX10_acquire 61 = .ok (.ireturn, 1) := by decide +kernel
theorem dX10_acquire_62 : decode cX10_acquire 62 = .ok (.aload_n 0, 1) := by decide +kernel
theorem dX10_acquire_63 : decode cX10_acquire 63 = .ok (.invokevirtual 299, 3) := by decide +kernel
theorem dX10_acquire_66 : decode cX10_acquire 66 = .ok (.aload_n 0, 1) := by decide +kernel
theorem dX10_acquire_67 : decode cX10_acquire 67 = .ok (.iload_n 1, 1) := by decide +kernel
theorem dX10_acquire_68 : decode cX10_acquire 68 = .ok (.iload_n 2, 1) := by decide +kernel
theorem dX10_acquire_69 : decode cX10_acquire 69 = .ok (.iload_n 3, 1) := by decide +kernel
theorem dX10_acquire_70 : decode cX10_acquire 70 = .ok (.iload 4, 2) := by decide +kernel
theorem dX10_acquire_72 : decode cX10_acquire 72 = .ok (.invokevirtual 187, 3) := by decide +kernel
theorem dX10_acquire_75 : decode cX10_acquire 75 = .ok (.ireturn, 1) := by decide +kernel
theorem dX10_isAsset_0 : decode cX10_isAsset 0 = .ok (.iload_n 1, 1) := by decide +kernel
theorem dX10_isAsset_1 : decode cX10_isAsset 1 = .ok (.ifCond .lt 18, 3) := by decide +kernel
theorem dX10_isAsset_4 : decode cX10_isAsset 4 = .ok (.iload_n 1, 1) := by decide +kernel
theorem dX10_isAsset_5 : decode cX10_isAsset 5 = .ok (.aload_n 0, 1) := by decide +kernel
theorem dX10_isAsset_6 : decode cX10_isAsset 6 = .ok (.sipush 1865, 3) := by decide +kernel
theorem dX10_isAsset_9 : decode cX10_isAsset 9 = .ok (.invokevirtual 174, 3) := by decide +kernel
theorem dX10_isAsset_12 : decode cX10_isAsset 12 = .ok (.if_icmp .ge 7, 3) := by decide +kernel
theorem dX10_isAsset_15 : decode cX10_isAsset 15 = .ok (.iconst 1, 1) := by decide +kernel
theorem dX10_isAsset_16 : decode cX10_isAsset 16 = .ok (.goto 4, 3) := by decide +kernel
theorem dX10_isAsset_19 : decode cX10_isAsset 19 = .ok (.iconst 0, 1) := by decide +kernel
theorem dX10_isAsset_20 : decode cX10_isAsset 20 = .ok (.ireturn, 1) := by decide +kernel
theorem dX10_isGone_0 : decode cX10_isGone 0 = .ok (.aload_n 0, 1) := by decide +kernel
theorem dX10_isGone_1 : decode cX10_isGone 1 = .ok (.iload_n 1, 1) := by decide +kernel
theorem dX10_isGone_2 : decode cX10_isGone 2 = .ok (.bipush 9, 2) := by decide +kernel
theorem dX10_isGone_4 : decode cX10_isGone 4 = .ok (.invokevirtual 256, 3) := by decide +kernel
theorem dX10_isGone_7 : decode cX10_isGone 7 = .ok (.iconst 1, 1) := by decide +kernel
theorem dX10_isGone_8 : decode cX10_isGone 8 = .ok (.if_icmp .eq 13, 3) := by decide +kernel
theorem dX10_isGone_11 : decode cX10_isGone 11 = .ok (.aload_n 0, 1) := by decide +kernel
theorem dX10_isGone_12 : decode cX10_isGone 12 = .ok (.iload_n 1, 1) := by decide +kernel
theorem dX10_isGone_13 : decode cX10_isGone 13 = .ok (.bipush 7, 2) := by decide +kernel
theorem dX10_isGone_15 : decode cX10_isGone 15 = .ok (.invokevirtual 256, 3) := by decide +kernel
theorem dX10_isGone_18 : decode cX10_isGone 18 = .ok (.ifCond .le 7, 3) := by decide +kernel
theorem dX10_isGone_21 : decode cX10_isGone 21 = .ok (.iconst 1, 1) := by decide +kernel
theorem dX10_isGone_22 : decode cX10_isGone 22 = .ok (.goto 4, 3) := by decide +kernel
theorem dX10_isGone_25 : decode cX10_isGone 25 = .ok (.iconst 0, 1) := by decide +kernel
theorem dX10_isGone_26 : decode cX10_isGone 26 = .ok (.ireturn, 1) := by decide +kernel
theorem dX10_use_0 : decode cX10_use 0 = .ok (.aload_n 0, 1) := by decide +kernel
theorem dX10_use_1 : decode cX10_use 1 = .ok (.iconst 0, 1) := by decide +kernel
theorem dX10_use_2 : decode cX10_use 2 = .ok (.putfield 49, 3) := by decide +kernel
theorem dX10_use_5 : decode cX10_use 5 = .ok (.aload_n 0, 1) := by decide +kernel
theorem dX10_use_6 : decode cX10_use 6 = .ok (.iload_n 1, 1) := by decide +kernel
theorem dX10_use_7 : decode cX10_use 7 = .ok (.invokevirtual 302, 3) := by decide +kernel
theorem dX10_use_10 : decode cX10_use 10 = .ok (.ifCond .eq 32, 3) := by decide +kernel
theorem dX10_use_13 : decode cX10_use 13 = .ok (.iload_n 2, 1) := by decide +kernel
theorem dX10_use_14 : decode cX10_use 14 = .ok (.iconst 0, 1) := by decide +kernel
theorem dX10_use_15 : decode cX10_use 15 = .ok (.iconst 2, 1) := by decide +kernel
theorem dX10_use_16 : decode cX10_use 16 = .ok (.invokestatic 124, 3) := by decide +kernel
theorem dX10_use_19 : decode cX10_use 19 = .ok (.ifCond .eq 23, 3) := by decide +kernel
theorem dX10_use_22 : decode cX10_use 22 = .ok (.aload_n 0, 1) := by decide +kernel
theorem dX10_use_23 : decode cX10_use 23 = .ok (.iload_n 1, 1) := by decide +kernel
theorem dX10_use_24 : decode cX10_use 24 = .ok (.invokevirtual 305, 3) := by decide +kernel
theorem dX10_use_27 : decode cX10_use 27 = .ok (.ifCond .ne 15, 3) := by decide +kernel
theorem dX10_use_30 : decode cX10_use 30 = .ok (.aload_n 0, 1) := by decide +kernel
theorem dX10_use_31 : decode cX10_use 31 = .ok (.iload_n 1, 1) := by decide +kernel
theorem dX10_use_32 : decode cX10_use 32 = .ok (.aload_n 0, 1) := by decide +kernel
theorem dX10_use_33 : decode cX10_use 33 = .ok (.invokevirtual 233, 3) := by decide +kernel
theorem dX10_use_36 : decode cX10_use 36 = .ok (.invokevirtual 270, 3) := by decide +kernel
theorem dX10_use_39 : decode cX10_use 39 = .ok (.ifCond .ne 5, 3) := by decide +kernel
theorem dX10_use_42 : decode cX10_use 42 = .ok (.iconst 0, 1) := by decide +kernel
theorem dX10_use_43 : decode cX10_use 43 = .ok (.ireturn, 1) := by decide +kernel
theorem dX10_use_44 : decode cX10_use 44 = .ok (.aload_n 0, 1) := by decide +kernel
theorem dX10_use_45 : decode cX10_use 45 = .ok (.invokevirtual 299, 3) := by decide +kernel
theorem dX10_use_48 : decode cX10_use 48 = .ok (.aload_n 0, 1) := by decide +kernel
theorem dX10_use_49 : decode cX10_use 49 = .ok (.iload_n 1, 1) := by decide +kernel
theorem dX10_use_50 : decode cX10_use 50 = .ok (.iconst 2, 1) := by decide +kernel
theorem dX10_use_51 : decode cX10_use 51 = .ok (.iload_n 2, 1) := by decide +kernel
theorem dX10_use_52 : decode cX10_use 52 = .ok (.invokevirtual 191, 3) := by decide +kernel
theorem dX10_use_55 : decode cX10_use 55 = .ok (.iconst 1, 1) := by decide +kernel
theorem dX10_use_56 : decode cX10_use 56 = .ok (.ireturn, 1) := by decide +kernel
theorem dX10_behindOf_0 : decode cX10_behindOf 0 = .ok (.aload_n 0, 1) := by decide +kernel
theorem dX10_behindOf_1 : decode cX10_behindOf 1 = .ok (.iload_n 1, 1) := by decide +kernel
theorem dX10_behindOf_2 : decode cX10_behindOf 2 = .ok (.iconst 4, 1) := by decide +kernel
theorem dX10_behindOf_3 : decode cX10_behindOf 3 = .ok (.invokevirtual 256, 3) := by decide +kernel
theorem dX10_behindOf_6 : decode cX10_behindOf 6 = .ok (.iconst 1, 1) := by decide +kernel
theorem dX10_behindOf_7 : decode cX10_behindOf 7 = .ok (.isub, 1) := by decide +kernel
theorem dX10_behindOf_8 : decode cX10_behindOf 8 = .ok (.aload_n 0, 1) := by decide +kernel
theorem dX10_behindOf_9 : decode cX10_behindOf 9 = .ok (.iload_n 1, 1) := by decide +kernel
theorem dX10_behindOf_10 : decode cX10_behindOf 10 = .ok (.aload_n 0, 1) := by decide +kernel
theorem dX10_behindOf_11 : decode cX10_behindOf 11 = .ok (.invokevirtual 233, 3) := by decide +kernel
theorem dX10_behindOf_14 : decode cX10_behindOf 14 = .ok (.invokevirtual 270, 3) := by decide +kernel
theorem dX10_behindOf_17 : decode cX10_behindOf 17 = .ok (.isub, 1) := by decide +kernel
theorem dX10_behindOf_18 : decode cX10_behindOf 18 = .ok (.ireturn, 1) := by decide +kernel
theorem dX10_sell_0 : decode cX10_sell 0 = .ok (.aload_n 0, 1) := by decide +kernel
theorem dX10_sell_1 : decode cX10_sell 1 = .ok (.iconst 0, 1) := by decide +kernel
theorem dX10_sell_2 : decode cX10_sell 2 = .ok (.putfield 49, 3) := by decide +kernel
theorem dX10_sell_5 : decode cX10_sell 5 = .ok (.aload_n 0, 1) := by decide +kernel
theorem dX10_sell_6 : decode cX10_sell 6 = .ok (.iload_n 1, 1) := by decide +kernel
theorem dX10_sell_7 : decode cX10_sell 7 = .ok (.invokevirtual 302, 3) := by decide +kernel
theorem dX10_sell_10 : decode cX10_sell 10 = .ok (.ifCond .eq 31, 3) := by decide +kernel
theorem dX10_sell_13 : decode cX10_sell 13 = .ok (.iload_n 2, 1) := by decide +kernel
theorem dX10_sell_14 : decode cX10_sell 14 = .ok (.iconst 0, 1) := by decide +kernel
theorem dX10_sell_15 : decode cX10_sell 15 = .ok (.iconst 2, 1) := by decide +kernel
theorem dX10_sell_16 : decode cX10_sell 16 = .ok (.invokestatic 124, 3) := by decide +kernel
theorem dX10_sell_19 : decode cX10_sell 19 = .ok (.ifCond .eq 22, 3) := by decide +kernel
theorem dX10_sell_22 : decode cX10_sell 22 = .ok (.iload_n 3, 1) := by decide +kernel
theorem dX10_sell_23 : decode cX10_sell 23 = .ok (.iconst (-1), 1) := by decide +kernel
theorem dX10_sell_24 : decode cX10_sell 24 = .ok (.iload_n 2, 1) := by decide +kernel
theorem dX10_sell_25 : decode cX10_sell 25 = .ok (.iconst 2, 1) := by decide +kernel
theorem dX10_sell_26 : decode cX10_sell 26 = .ok (.if_icmp .ne 7, 3) := by decide +kernel
theorem dX10_sell_29 : decode cX10_sell 29 = .ok (.iconst (-1), 1) := by decide +kernel
theorem dX10_sell_30 : decode cX10_sell 30 = .ok (.goto 5, 3) := by decide +kernel
theorem dX10_sell_33 : decode cX10_sell 33 = .ok (.ldc 87, 2) := by decide +kernel
theorem dX10_sell_35 : decode cX10_sell 35 = .ok (.invokestatic 124, 3) := by decide +kernel
theorem dX10_sell_38 : decode cX10_sell 38 = .ok (.ifCond .ne 5, 3) := by decide +kernel
theorem dX10_sell_41 : decode cX10_sell 41 = .ok (.iconst (-1), 1) := by decide +kernel
theorem dX10_sell_42 : decode cX10_sell 42 = .ok (.ireturn, 1) := by decide +kernel
theorem dX10_sell_43 : decode cX10_sell 43 = .ok (.aload_n 0, 1) := by decide +kernel
theorem dX10_sell_44 : decode cX10_sell 44 = .ok (.iload_n 1, 1) := by decide +kernel
theorem dX10_sell_45 : decode cX10_sell 45 = .ok (.invokevirtual 305, 3) := by decide +kernel
theorem dX10_sell_48 : decode cX10_sell 48 = .ok (.ifCond .eq 6, 3) := by decide +kernel
theorem dX10_sell_51 : decode cX10_sell 51 = .ok (.bipush (-2), 2) := by decide +kernel
theorem dX10_sell_53 : decode cX10_sell 53 = .ok (.ireturn, 1) := by decide +kernel
theorem dX10_sell_54 : decode cX10_sell 54 = .ok (.aload_n 0, 1) := by decide +kernel
theorem dX10_sell_55 : decode cX10_sell 55 = .ok (.invokevirtual 299, 3) := by decide +kernel
theorem dX10_sell_58 : decode cX10_sell 58 = .ok (.aload_n 0, 1) := by decide +kernel
theorem dX10_sell_59 : decode cX10_sell 59 = .ok (.iload_n 1, 1) := by decide +kernel
theorem dX10_sell_60 : decode cX10_sell 60 = .ok (.bipush 7, 2) := by decide +kernel
theorem dX10_sell_62 : decode cX10_sell 62 = .ok (.iload_n 2, 1) := by decide +kernel
theorem dX10_sell_63 : decode cX10_sell 63 = .ok (.iconst 1, 1) := by decide +kernel
theorem dX10_sell_64 : decode cX10_sell 64 = .ok (.iadd, 1) := by decide +kernel
theorem dX10_sell_65 : decode cX10_sell 65 = .ok (.invokevirtual 191, 3) := by decide +kernel
theorem dX10_sell_68 : decode cX10_sell 68 = .ok (.aload_n 0, 1) := by decide +kernel
theorem dX10_sell_69 : decode cX10_sell 69 = .ok (.iload_n 1, 1) := by decide +kernel
theorem dX10_sell_70 : decode cX10_sell 70 = .ok (.bipush 8, 2) := by decide +kernel
theorem dX10_sell_72 : decode cX10_sell 72 = .ok (.iload_n 3, 1) := by decide +kernel
theorem dX10_sell_73 : decode cX10_sell 73 = .ok (.invokevirtual 191, 3) := by decide +kernel
theorem dX10_sell_76 : decode cX10_sell 76 = .ok (.aload_n 0, 1) := by decide +kernel
theorem dX10_sell_77 : decode cX10_sell 77 = .ok (.iload_n 1, 1) := by decide +kernel
theorem dX10_sell_78 : decode cX10_sell 78 = .ok (.invokevirtual 308, 3) := by decide +kernel
theorem dX10_sell_81 : decode cX10_sell 81 = .ok (.ireturn, 1) := by decide +kernel
theorem dX10_hand_0 : decode cX10_hand 0 = .ok (.aload_n 0, 1) := by decide +kernel
theorem dX10_hand_1 : decode cX10_hand 1 = .ok (.iconst 0, 1) := by decide +kernel
theorem dX10_hand_2 : decode cX10_hand 2 = .ok (.putfield 49, 3) := by decide +kernel
theorem dX10_hand_5 : decode cX10_hand 5 = .ok (.aload_n 0, 1) := by decide +kernel
theorem dX10_hand_6 : decode cX10_hand 6 = .ok (.iload_n 1, 1) := by decide +kernel
theorem dX10_hand_7 : decode cX10_hand 7 = .ok (.invokevirtual 302, 3) := by decide +kernel
theorem dX10_hand_10 : decode cX10_hand 10 = .ok (.ifCond .eq 11, 3) := by decide +kernel
theorem dX10_hand_13 : decode cX10_hand 13 = .ok (.aload_n 0, 1) := by decide +kernel
theorem dX10_hand_14 : decode cX10_hand 14 = .ok (.iload_n 2, 1) := by decide +kernel
theorem dX10_hand_15 : decode cX10_hand 15 = .ok (.invokevirtual 296, 3) := by decide +kernel
theorem dX10_hand_18 : decode cX10_hand 18 = .ok (.ifCond .ne 5, 3) := by decide +kernel
theorem dX10_hand_21 : decode cX10_hand 21 = .ok (.iconst (-1), 1) := by decide +kernel
theorem dX10_hand_22 : decode cX10_hand 22 = .ok (.ireturn, 1) := by decide +kernel
theorem dX10_hand_23 : decode cX10_hand 23 = .ok (.aload_n 0, 1) := by decide +kernel
theorem dX10_hand_24 : decode cX10_hand 24 = .ok (.iload_n 1, 1) := by decide +kernel
theorem dX10_hand_25 : decode cX10_hand 25 = .ok (.invokevirtual 305, 3) := by decide +kernel
theorem dX10_hand_28 : decode cX10_hand 28 = .ok (.ifCond .eq 6, 3) := by decide +kernel
theorem dX10_hand_31 : decode cX10_hand 31 = .ok (.bipush (-2), 2) := by decide +kernel
theorem dX10_hand_33 : decode cX10_hand 33 = .ok (.ireturn, 1) := by decide +kernel
theorem dX10_hand_34 : decode cX10_hand 34 = .ok (.aload_n 0, 1) := by decide +kernel
theorem dX10_hand_35 : decode cX10_hand 35 = .ok (.invokevirtual 299, 3) := by decide +kernel
theorem dX10_hand_38 : decode cX10_hand 38 = .ok (.aload_n 0, 1) := by decide +kernel
theorem dX10_hand_39 : decode cX10_hand 39 = .ok (.iload_n 1, 1) := by decide +kernel
theorem dX10_hand_40 : decode cX10_hand 40 = .ok (.iconst 1, 1) := by decide +kernel
theorem dX10_hand_41 : decode cX10_hand 41 = .ok (.invokevirtual 256, 3) := by decide +kernel
theorem dX10_hand_44 : decode cX10_hand 44 = .ok (.istore_n 3, 1) := by decide +kernel
theorem dX10_hand_45 : decode cX10_hand 45 = .ok (.aload_n 0, 1) := by decide +kernel
theorem dX10_hand_46 : decode cX10_hand 46 = .ok (.iload_n 1, 1) := by decide +kernel
theorem dX10_hand_47 : decode cX10_hand 47 = .ok (.iconst 1, 1) := by decide +kernel
theorem dX10_hand_48 : decode cX10_hand 48 = .ok (.iload_n 2, 1) := by decide +kernel
theorem dX10_hand_49 : decode cX10_hand 49 = .ok (.invokevirtual 191, 3) := by decide +kernel
theorem dX10_hand_52 : decode cX10_hand 52 = .ok (.iload_n 3, 1) := by decide +kernel
theorem dX10_hand_53 : decode cX10_hand 53 = .ok (.ireturn, 1) := by decide +kernel
theorem dX10_close_0 : decode cX10_close 0 = .ok (.aload_n 0, 1) := by decide +kernel
theorem dX10_close_1 : decode cX10_close 1 = .ok (.iconst 0, 1) := by decide +kernel
theorem dX10_close_2 : decode cX10_close 2 = .ok (.putfield 49, 3) := by decide +kernel
theorem dX10_close_5 : decode cX10_close 5 = .ok (.iload_n 1, 1) := by decide +kernel
theorem dX10_close_6 : decode cX10_close 6 = .ok (.iconst 1, 1) := by decide +kernel
theorem dX10_close_7 : decode cX10_close 7 = .ok (.bipush 16, 2) := by decide +kernel
theorem dX10_close_9 : decode cX10_close 9 = .ok (.invokestatic 124, 3) := by decide +kernel
theorem dX10_close_12 : decode cX10_close 12 = .ok (.ifCond .ne 5, 3) := by decide +kernel
theorem dX10_close_15 : decode cX10_close 15 = .ok (.iconst (-1), 1) := by decide +kernel
theorem dX10_close_16 : decode cX10_close 16 = .ok (.ireturn, 1) := by decide +kernel
theorem dX10_close_17 : decode cX10_close 17 = .ok (.aload_n 0, 1) := by decide +kernel
theorem dX10_close_18 : decode cX10_close 18 = .ok (.iconst 0, 1) := by decide +kernel
theorem dX10_close_19 : decode cX10_close 19 = .ok (.invokevirtual 174, 3) := by decide +kernel
theorem dX10_close_22 : decode cX10_close 22 = .ok (.iload_n 1, 1) := by decide +kernel
theorem dX10_close_23 : decode cX10_close 23 = .ok (.iadd, 1) := by decide +kernel
theorem dX10_close_24 : decode cX10_close 24 = .ok (.bipush 63, 2) := by decide +kernel
theorem dX10_close_26 : decode cX10_close 26 = .ok (.if_icmp .le 6, 3) := by decide +kernel
theorem dX10_close_29 : decode cX10_close 29 = .ok (.bipush (-2), 2) := by decide +kernel
theorem dX10_close_31 : decode cX10_close 31 = .ok (.ireturn, 1) := by decide +kernel
theorem dX10_close_32 : decode cX10_close 32 = .ok (.aload_n 0, 1) := by decide +kernel
theorem dX10_close_33 : decode cX10_close 33 = .ok (.invokevirtual 299, 3) := by decide +kernel
theorem dX10_close_36 : decode cX10_close 36 = .ok (.aload_n 0, 1) := by decide +kernel
theorem dX10_close_37 : decode cX10_close 37 = .ok (.sipush 1866, 3) := by decide +kernel
theorem dX10_close_40 : decode cX10_close 40 = .ok (.invokevirtual 174, 3) := by decide +kernel
theorem dX10_close_43 : decode cX10_close 43 = .ok (.istore_n 2, 1) := by decide +kernel
theorem dX10_close_44 : decode cX10_close 44 = .ok (.iconst 0, 1) := by decide +kernel
theorem dX10_close_45 : decode cX10_close 45 = .ok (.istore_n 3, 1) := by decide +kernel
theorem dX10_close_46 : decode cX10_close 46 = .ok (.iload_n 3, 1) := by decide +kernel
theorem dX10_close_47 : decode cX10_close 47 = .ok (.iload_n 1, 1) := by decide +kernel
theorem dX10_close_48 : decode cX10_close 48 = .ok (.if_icmp .ge 13, 3) := by decide +kernel
theorem dX10_close_51 : decode cX10_close 51 = .ok (.aload_n 0, 1) := by decide +kernel
theorem dX10_close_52 : decode cX10_close 52 = .ok (.invokevirtual 311, 3) := by decide +kernel
theorem dX10_close_55 : decode cX10_close 55 = .ok (.iinc 3 1, 3) := by decide +kernel
theorem dX10_close_58 : decode cX10_close 58 = .ok (.goto (-12), 3) := by decide +kernel
theorem dX10_close_61 : decode cX10_close 61 = .ok (.aload_n 0, 1) := by decide +kernel
theorem dX10_close_62 : decode cX10_close 62 = .ok (.sipush 1866, 3) := by decide +kernel
theorem dX10_close_65 : decode cX10_close 65 = .ok (.invokevirtual 174, 3) := by decide +kernel
theorem dX10_close_68 : decode cX10_close 68 = .ok (.iload_n 2, 1) := by decide +kernel
theorem dX10_close_69 : decode cX10_close 69 = .ok (.isub, 1) := by decide +kernel
theorem dX10_close_70 : decode cX10_close 70 = .ok (.ireturn, 1) := by decide +kernel
theorem dX10_fails_0 : decode cX10_fails 0 = .ok (.aload_n 0, 1) := by decide +kernel
theorem dX10_fails_1 : decode cX10_fails 1 = .ok (.iload_n 1, 1) := by decide +kernel
theorem dX10_fails_2 : decode cX10_fails 2 = .ok (.putfield 49, 3) := by decide +kernel
theorem dX10_fails_5 : decode cX10_fails 5 = .ok (.iconst 0, 1) := by decide +kernel
theorem dX10_fails_6 : decode cX10_fails 6 = .ok (.ireturn, 1) := by decide +kernel
theorem dX10_trader_0 : decode cX10_trader 0 = .ok (.aload_n 0, 1) := by decide +kernel
theorem dX10_trader_1 : decode cX10_trader 1 = .ok (.iconst 0, 1) := by decide +kernel
theorem dX10_trader_2 : decode cX10_trader 2 = .ok (.putfield 49, 3) := by decide +kernel
theorem dX10_trader_5 : decode cX10_trader 5 = .ok (.aload_n 0, 1) := by decide +kernel
theorem dX10_trader_6 : decode cX10_trader 6 = .ok (.iload_n 1, 1) := by decide +kernel
theorem dX10_trader_7 : decode cX10_trader 7 = .ok (.invokevirtual 296, 3) := by decide +kernel
theorem dX10_trader_10 : decode cX10_trader 10 = .ok (.ifCond .ne 9, 3) := by decide +kernel
theorem dX10_trader_13 : decode cX10_trader 13 = .ok (.aload_n 0, 1) := by decide +kernel
theorem dX10_trader_14 : decode cX10_trader 14 = .ok (.iconst 1, 1) := by decide +kernel
theorem dX10_trader_15 : decode cX10_trader 15 = .ok (.invokevirtual 314, 3) := by decide +kernel
theorem dX10_trader_18 : decode cX10_trader 18 = .ok (.ireturn, 1) := by decide +kernel
theorem dX10_trader_19 : decode cX10_trader 19 = .ok (.iload_n 2, 1) := by decide +kernel
theorem dX10_trader_20 : decode cX10_trader 20 = .ok (.tableswitch 162 0 5 #[40, 47, 54, 66, 80, 104], 40) := by decide +kernel
theorem dX10_trader_60 : decode cX10_trader 60 = .ok (.aload_n 0, 1) := by decide +kernel
theorem dX10_trader_61 : decode cX10_trader 61 = .ok (.iload_n 1, 1) := by decide +kernel
theorem dX10_trader_62 : decode cX10_trader 62 = .ok (.iconst 1, 1) := by decide +kernel
theorem dX10_trader_63 : decode cX10_trader 63 = .ok (.invokevirtual 115, 3) := by decide +kernel
theorem dX10_trader_66 : decode cX10_trader 66 = .ok (.ireturn, 1) := by decide +kernel
theorem dX10_trader_67 : decode cX10_trader 67 = .ok (.aload_n 0, 1) := by decide +kernel
theorem dX10_trader_68 : decode cX10_trader 68 = .ok (.iload_n 1, 1) := by decide +kernel
theorem dX10_trader_69 : decode cX10_trader 69 = .ok (.iconst 2, 1) := by decide +kernel
theorem dX10_trader_70 : decode cX10_trader 70 = .ok (.invokevirtual 115, 3) := by decide +kernel
theorem dX10_trader_73 : decode cX10_trader 73 = .ok (.ireturn, 1) := by decide +kernel
theorem dX10_trader_74 : decode cX10_trader 74 = .ok (.aload_n 0, 1) := by decide +kernel
theorem dX10_trader_75 : decode cX10_trader 75 = .ok (.sipush 1281, 3) := by decide +kernel
theorem dX10_trader_78 : decode cX10_trader 78 = .ok (.iconst 2, 1) := by decide +kernel
theorem dX10_trader_79 : decode cX10_trader 79 = .ok (.iload_n 1, 1) := by decide +kernel
theorem dX10_trader_80 : decode cX10_trader 80 = .ok (.imul, 1) := by decide +kernel
theorem dX10_trader_81 : decode cX10_trader 81 = .ok (.iadd, 1) := by decide +kernel
theorem dX10_trader_82 : decode cX10_trader 82 = .ok (.invokevirtual 174, 3) := by decide +kernel
theorem dX10_trader_85 : decode cX10_trader 85 = .ok (.ireturn, 1) := by decide +kernel
theorem dX10_trader_86 : decode cX10_trader 86 = .ok (.aload_n 0, 1) := by decide +kernel
theorem dX10_trader_87 : decode cX10_trader 87 = .ok (.sipush 1281, 3) := by decide +kernel
theorem dX10_trader_90 : decode cX10_trader 90 = .ok (.iconst 2, 1) := by decide +kernel
theorem dX10_trader_91 : decode cX10_trader 91 = .ok (.iload_n 1, 1) := by decide +kernel
theorem dX10_trader_92 : decode cX10_trader 92 = .ok (.imul, 1) := by decide +kernel
theorem dX10_trader_93 : decode cX10_trader 93 = .ok (.iadd, 1) := by decide +kernel
theorem dX10_trader_94 : decode cX10_trader 94 = .ok (.iconst 1, 1) := by decide +kernel
theorem dX10_trader_95 : decode cX10_trader 95 = .ok (.iadd, 1) := by decide +kernel
theorem dX10_trader_96 : decode cX10_trader 96 = .ok (.invokevirtual 174, 3) := by decide +kernel
theorem dX10_trader_99 : decode cX10_trader 99 = .ok (.ireturn, 1) := by decide +kernel
theorem dX10_trader_100 : decode cX10_trader 100 = .ok (.aload_n 0, 1) := by decide +kernel
theorem dX10_trader_101 : decode cX10_trader 101 = .ok (.iload_n 1, 1) := by decide +kernel
theorem dX10_trader_102 : decode cX10_trader 102 = .ok (.bipush 6, 2) := by decide +kernel
theorem dX10_trader_104 : decode cX10_trader 104 = .ok (.invokevirtual 115, 3) := by decide +kernel
theorem dX10_trader_107 : decode cX10_trader 107 = .ok (.iconst 1, 1) := by decide +kernel
theorem dX10_trader_108 : decode cX10_trader 108 = .ok (.if_icmp .ne 13, 3) := by decide +kernel
theorem dX10_trader_111 : decode cX10_trader 111 = .ok (.aload_n 0, 1) := by decide +kernel
theorem dX10_trader_112 : decode cX10_trader 112 = .ok (.iload_n 1, 1) := by decide +kernel
theorem dX10_trader_113 : decode cX10_trader 113 = .ok (.bipush 7, 2) := by decide +kernel
theorem dX10_trader_115 : decode cX10_trader 115 = .ok (.invokevirtual 115, 3) := by decide +kernel
theorem dX10_trader_118 : decode cX10_trader 118 = .ok (.goto 5, 3) := by decide +kernel
theorem dX10_trader_121 : decode cX10_trader 121 = .ok (.bipush (-2), 2) := by decide +kernel
theorem dX10_trader_123 : decode cX10_trader 123 = .ok (.ireturn, 1) := by decide +kernel
theorem dX10_trader_124 : decode cX10_trader 124 = .ok (.iconst 0, 1) := by decide +kernel
theorem dX10_trader_125 : decode cX10_trader 125 = .ok (.istore_n 3, 1) := by decide +kernel
theorem dX10_trader_126 : decode cX10_trader 126 = .ok (.iconst 0, 1) := by decide +kernel
theorem dX10_trader_127 : decode cX10_trader 127 = .ok (.istore 4, 2) := by decide +kernel
theorem dX10_trader_129 : decode cX10_trader 129 = .ok (.iload 4, 2) := by decide +kernel
theorem dX10_trader_131 : decode cX10_trader 131 = .ok (.aload_n 0, 1) := by decide +kernel
theorem dX10_trader_132 : decode cX10_trader 132 = .ok (.sipush 1865, 3) := by decide +kernel
theorem dX10_trader_135 : decode cX10_trader 135 = .ok (.invokevirtual 174, 3) := by decide +kernel
theorem dX10_trader_138 : decode cX10_trader 138 = .ok (.if_icmp .ge 42, 3) := by decide +kernel
theorem dX10_trader_141 : decode cX10_trader 141 = .ok (.iload_n 3, 1) := by decide +kernel
theorem dX10_trader_142 : decode cX10_trader 142 = .ok (.aload_n 0, 1) := by decide +kernel
theorem dX10_trader_143 : decode cX10_trader 143 = .ok (.iload 4, 2) := by decide +kernel
theorem dX10_trader_145 : decode cX10_trader 145 = .ok (.iconst 0, 1) := by decide +kernel
theorem dX10_trader_146 : decode cX10_trader 146 = .ok (.invokevirtual 256, 3) := by decide +kernel
theorem dX10_trader_149 : decode cX10_trader 149 = .ok (.iload_n 1, 1) := by decide +kernel
theorem dX10_trader_150 : decode cX10_trader 150 = .ok (.if_icmp .ne 21, 3) := by decide +kernel
theorem dX10_trader_153 : decode cX10_trader 153 = .ok (.aload_n 0, 1) := by decide +kernel
theorem dX10_trader_154 : decode cX10_trader 154 = .ok (.iload 4, 2) := by decide +kernel
theorem dX10_trader_156 : decode cX10_trader 156 = .ok (.bipush 9, 2) := by decide +kernel
theorem dX10_trader_158 : decode cX10_trader 158 = .ok (.invokevirtual 256, 3) := by decide +kernel
theorem dX10_trader_161 : decode cX10_trader 161 = .ok (.ifCond .ne 10, 3) := by decide +kernel
theorem dX10_trader_164 : decode cX10_trader 164 = .ok (.iconst 1, 1) := by decide +kernel
theorem dX10_trader_165 : decode cX10_trader 165 = .ok (.iload 4, 2) := by decide +kernel
theorem dX10_trader_167 : decode cX10_trader 167 = .ok (.ishl, 1) := by decide +kernel
theorem dX10_trader_168 : decode cX10_trader 168 = .ok (.goto 4, 3) := by decide +kernel
theorem dX10_trader_171 : decode cX10_trader 171 = .ok (.iconst 0, 1) := by decide +kernel
theorem dX10_trader_172 : decode cX10_trader 172 = .ok (.ior, 1) := by decide +kernel
theorem dX10_trader_173 : decode cX10_trader 173 = .ok (.istore_n 3, 1) := by decide +kernel
theorem dX10_trader_174 : decode cX10_trader 174 = .ok (.iinc 4 1, 3) := by decide +kernel
theorem dX10_trader_177 : decode cX10_trader 177 = .ok (.goto (-48), 3) := by decide +kernel
theorem dX10_trader_180 : decode cX10_trader 180 = .ok (.iload_n 3, 1) := by decide +kernel
theorem dX10_trader_181 : decode cX10_trader 181 = .ok (.ireturn, 1) := by decide +kernel
theorem dX10_trader_182 : decode cX10_trader 182 = .ok (.aload_n 0, 1) := by decide +kernel
theorem dX10_trader_183 : decode cX10_trader 183 = .ok (.iconst 2, 1) := by decide +kernel
theorem dX10_trader_184 : decode cX10_trader 184 = .ok (.invokevirtual 314, 3) := by decide +kernel
theorem dX10_trader_187 : decode cX10_trader 187 = .ok (.ireturn, 1) := by decide +kernel
theorem dX10_isThrough_0 : decode cX10_isThrough 0 = .ok (.aload_n 0, 1) := by decide +kernel
theorem dX10_isThrough_1 : decode cX10_isThrough 1 = .ok (.iload_n 1, 1) := by decide +kernel
theorem dX10_isThrough_2 : decode cX10_isThrough 2 = .ok (.bipush 47, 2) := by decide +kernel
theorem dX10_isThrough_4 : decode cX10_isThrough 4 = .ok (.invokevirtual 256, 3) := by decide +kernel
theorem dX10_isThrough_7 : decode cX10_isThrough 7 = .ok (.ifCond .le 7, 3) := by decide +kernel
theorem dX10_isThrough_10 : decode cX10_isThrough 10 = .ok (.iconst 1, 1) := by decide +kernel
theorem dX10_isThrough_11 : decode cX10_isThrough 11 = .ok (.goto 4, 3) := by decide +kernel
theorem dX10_isThrough_14 : decode cX10_isThrough 14 = .ok (.iconst 0, 1) := by decide +kernel
theorem dX10_isThrough_15 : decode cX10_isThrough 15 = .ok (.ireturn, 1) := by decide +kernel
theorem dX10_asset_0 : decode cX10_asset 0 = .ok (.aload_n 0, 1) := by decide +kernel
theorem dX10_asset_1 : decode cX10_asset 1 = .ok (.iconst 0, 1) := by decide +kernel
theorem dX10_asset_2 : decode cX10_asset 2 = .ok (.putfield 49, 3) := by decide +kernel
theorem dX10_asset_5 : decode cX10_asset 5 = .ok (.aload_n 0, 1) := by decide +kernel
theorem dX10_asset_6 : decode cX10_asset 6 = .ok (.iload_n 1, 1) := by decide +kernel
theorem dX10_asset_7 : decode cX10_asset 7 = .ok (.invokevirtual 302, 3) := by decide +kernel
theorem dX10_asset_10 : decode cX10_asset 10 = .ok (.ifCond .ne 5, 3) := by decide +kernel
theorem dX10_asset_13 : decode cX10_asset 13 = .ok (.iconst (-1), 1) := by decide +kernel
theorem dX10_asset_14 : decode cX10_asset 14 = .ok (.ireturn, 1) := by decide +kernel
theorem dX10_asset_15 : decode cX10_asset 15 = .ok (.iload_n 2, 1) := by decide +kernel
theorem dX10_asset_16 : decode cX10_asset 16 = .ok (.tableswitch 179 0 9 #[56, 63, 70, 77, 84, 91, 112, 137, 145, 152], 56) := by decide +kernel
theorem dX10_asset_72 : decode cX10_asset 72 = .ok (.aload_n 0, 1) := by decide +kernel
theorem dX10_asset_73 : decode cX10_asset 73 = .ok (.iload_n 1, 1) := by decide +kernel
theorem dX10_asset_74 : decode cX10_asset 74 = .ok (.iconst 0, 1) := by decide +kernel
theorem dX10_asset_75 : decode cX10_asset 75 = .ok (.invokevirtual 256, 3) := by decide +kernel
theorem dX10_asset_78 : decode cX10_asset 78 = .ok (.ireturn, 1) := by decide +kernel
theorem dX10_asset_79 : decode cX10_asset 79 = .ok (.aload_n 0, 1) := by decide +kernel
theorem dX10_asset_80 : decode cX10_asset 80 = .ok (.iload_n 1, 1) := by decide +kernel
theorem dX10_asset_81 : decode cX10_asset 81 = .ok (.iconst 2, 1) := by decide +kernel
theorem dX10_asset_82 : decode cX10_asset 82 = .ok (.invokevirtual 256, 3) := by decide +kernel
theorem dX10_asset_85 : decode cX10_asset 85 = .ok (.ireturn, 1) := by decide +kernel
theorem dX10_asset_86 : decode cX10_asset 86 = .ok (.aload_n 0, 1) := by decide +kernel
theorem dX10_asset_87 : decode cX10_asset 87 = .ok (.iload_n 1, 1) := by decide +kernel
theorem dX10_asset_88 : decode cX10_asset 88 = .ok (.iconst 3, 1) := by decide +kernel
theorem dX10_asset_89 : decode cX10_asset 89 = .ok (.invokevirtual 256, 3) := by decide +kernel
theorem dX10_asset_92 : decode cX10_asset 92 = .ok (.ireturn, 1) := by decide +kernel
theorem dX10_asset_93 : decode cX10_asset 93 = .ok (.aload_n 0, 1) := by decide +kernel
theorem dX10_asset_94 : decode cX10_asset 94 = .ok (.iload_n 1, 1) := by decide +kernel
theorem dX10_asset_95 : decode cX10_asset 95 = .ok (.iconst 4, 1) := by decide +kernel
theorem dX10_asset_96 : decode cX10_asset 96 = .ok (.invokevirtual 256, 3) := by decide +kernel
theorem dX10_asset_99 : decode cX10_asset 99 = .ok (.ireturn, 1) := by decide +kernel
theorem dX10_asset_100 : decode cX10_asset 100 = .ok (.aload_n 0, 1) := by decide +kernel
theorem dX10_asset_101 : decode cX10_asset 101 = .ok (.iload_n 1, 1) := by decide +kernel
theorem dX10_asset_102 : decode cX10_asset 102 = .ok (.iconst 5, 1) := by decide +kernel
theorem dX10_asset_103 : decode cX10_asset 103 = .ok (.invokevirtual 256, 3) := by decide +kernel
theorem dX10_asset_106 : decode cX10_asset 106 = .ok (.ireturn, 1) := by decide +kernel
theorem dX10_asset_107 : decode cX10_asset 107 = .ok (.aload_n 0, 1) := by decide +kernel
theorem dX10_asset_108 : decode cX10_asset 108 = .ok (.iload_n 1, 1) := by decide +kernel
theorem dX10_asset_109 : decode cX10_asset 109 = .ok (.invokevirtual 317, 3) := by decide +kernel
theorem dX10_asset_112 : decode cX10_asset 112 = .ok (.ifCond .eq 13, 3) := by decide +kernel
theorem dX10_asset_115 : decode cX10_asset 115 = .ok (.aload_n 0, 1) := by decide +kernel
theorem dX10_asset_116 : decode cX10_asset 116 = .ok (.iload_n 1, 1) := by decide +kernel
theorem dX10_asset_117 : decode cX10_asset 117 = .ok (.bipush 6, 2) := by decide +kernel
theorem dX10_asset_119 : decode cX10_asset 119 = .ok (.invokevirtual 256, 3) := by decide +kernel
theorem dX10_asset_122 : decode cX10_asset 122 = .ok (.goto 5, 3) := by decide +kernel
theorem dX10_asset_125 : decode cX10_asset 125 = .ok (.bipush (-2), 2) := by decide +kernel
theorem dX10_asset_127 : decode cX10_asset 127 = .ok (.ireturn, 1) := by decide +kernel
theorem dX10_asset_128 : decode cX10_asset 128 = .ok (.aload_n 0, 1) := by decide +kernel
theorem dX10_asset_129 : decode cX10_asset 129 = .ok (.iload_n 1, 1) := by decide +kernel
theorem dX10_asset_130 : decode cX10_asset 130 = .ok (.bipush 7, 2) := by decide +kernel
theorem dX10_asset_132 : decode cX10_asset 132 = .ok (.invokevirtual 256, 3) := by decide +kernel
theorem dX10_asset_135 : decode cX10_asset 135 = .ok (.ifCond .le 15, 3) := by decide +kernel
theorem dX10_asset_138 : decode cX10_asset 138 = .ok (.aload_n 0, 1) := by decide +kernel
theorem dX10_asset_139 : decode cX10_asset 139 = .ok (.iload_n 1, 1) := by decide +kernel
theorem dX10_asset_140 : decode cX10_asset 140 = .ok (.bipush 7, 2) := by decide +kernel
theorem dX10_asset_142 : decode cX10_asset 142 = .ok (.invokevirtual 256, 3) := by decide +kernel
theorem dX10_asset_145 : decode cX10_asset 145 = .ok (.iconst 1, 1) := by decide +kernel
theorem dX10_asset_146 : decode cX10_asset 146 = .ok (.isub, 1) := by decide +kernel
theorem dX10_asset_147 : decode cX10_asset 147 = .ok (.goto 5, 3) := by decide +kernel
theorem dX10_asset_150 : decode cX10_asset 150 = .ok (.bipush (-2), 2) := by decide +kernel
theorem dX10_asset_152 : decode cX10_asset 152 = .ok (.ireturn, 1) := by decide +kernel
theorem dX10_asset_153 : decode cX10_asset 153 = .ok (.aload_n 0, 1) := by decide +kernel
theorem dX10_asset_154 : decode cX10_asset 154 = .ok (.iload_n 1, 1) := by decide +kernel
theorem dX10_asset_155 : decode cX10_asset 155 = .ok (.bipush 9, 2) := by decide +kernel
theorem dX10_asset_157 : decode cX10_asset 157 = .ok (.invokevirtual 256, 3) := by decide +kernel
theorem dX10_asset_160 : decode cX10_asset 160 = .ok (.ireturn, 1) := by decide +kernel
theorem dX10_asset_161 : decode cX10_asset 161 = .ok (.aload_n 0, 1) := by decide +kernel
theorem dX10_asset_162 : decode cX10_asset 162 = .ok (.iload_n 1, 1) := by decide +kernel
theorem dX10_asset_163 : decode cX10_asset 163 = .ok (.iconst 1, 1) := by decide +kernel
theorem dX10_asset_164 : decode cX10_asset 164 = .ok (.invokevirtual 256, 3) := by decide +kernel
theorem dX10_asset_167 : decode cX10_asset 167 = .ok (.ireturn, 1) := by decide +kernel
theorem dX10_asset_168 : decode cX10_asset 168 = .ok (.aload_n 0, 1) := by decide +kernel
theorem dX10_asset_169 : decode cX10_asset 169 = .ok (.iload_n 1, 1) := by decide +kernel
theorem dX10_asset_170 : decode cX10_asset 170 = .ok (.invokevirtual 317, 3) := by decide +kernel
theorem dX10_asset_173 : decode cX10_asset 173 = .ok (.ifCond .eq 19, 3) := by decide +kernel
theorem dX10_asset_176 : decode cX10_asset 176 = .ok (.aload_n 0, 1) := by decide +kernel
theorem dX10_asset_177 : decode cX10_asset 177 = .ok (.iload_n 1, 1) := by decide +kernel
theorem dX10_asset_178 : decode cX10_asset 178 = .ok (.aload_n 0, 1) := by decide +kernel
theorem dX10_asset_179 : decode cX10_asset 179 = .ok (.iload_n 1, 1) := by decide +kernel
theorem dX10_asset_180 : decode cX10_asset 180 = .ok (.bipush 6, 2) := by decide +kernel
theorem dX10_asset_182 : decode cX10_asset 182 = .ok (.invokevirtual 256, 3) := by decide +kernel
theorem dX10_asset_185 : decode cX10_asset 185 = .ok (.invokevirtual 276, 3) := by decide +kernel
theorem dX10_asset_188 : decode cX10_asset 188 = .ok (.l2i, 1) := by decide +kernel
theorem dX10_asset_189 : decode cX10_asset 189 = .ok (.goto 5, 3) := by decide +kernel
theorem dX10_asset_192 : decode cX10_asset 192 = .ok (.bipush (-2), 2) := by decide +kernel
theorem dX10_asset_194 : decode cX10_asset 194 = .ok (.ireturn, 1) := by decide +kernel
theorem dX10_asset_195 : decode cX10_asset 195 = .ok (.iconst (-1), 1) := by decide +kernel
theorem dX10_asset_196 : decode cX10_asset 196 = .ok (.ireturn, 1) := by decide +kernel
theorem dX10_sum_0 : decode cX10_sum 0 = .ok (.aload_n 0, 1) := by decide +kernel
theorem dX10_sum_1 : decode cX10_sum 1 = .ok (.iconst 0, 1) := by decide +kernel
theorem dX10_sum_2 : decode cX10_sum 2 = .ok (.putfield 49, 3) := by decide +kernel
theorem dX10_sum_5 : decode cX10_sum 5 = .ok (.aload_n 0, 1) := by decide +kernel
theorem dX10_sum_6 : decode cX10_sum 6 = .ok (.iload_n 1, 1) := by decide +kernel
theorem dX10_sum_7 : decode cX10_sum 7 = .ok (.invokevirtual 296, 3) := by decide +kernel
theorem dX10_sum_10 : decode cX10_sum 10 = .ok (.ifCond .eq 34, 3) := by decide +kernel
theorem dX10_sum_13 : decode cX10_sum 13 = .ok (.aload_n 0, 1) := by decide +kernel
theorem dX10_sum_14 : decode cX10_sum 14 = .ok (.iload_n 2, 1) := by decide +kernel
theorem dX10_sum_15 : decode cX10_sum 15 = .ok (.invokevirtual 320, 3) := by decide +kernel
theorem dX10_sum_18 : decode cX10_sum 18 = .ok (.ifCond .eq 26, 3) := by decide +kernel
theorem dX10_sum_21 : decode cX10_sum 21 = .ok (.iload_n 3, 1) := by decide +kernel
theorem dX10_sum_22 : decode cX10_sum 22 = .ok (.iconst 0, 1) := by decide +kernel
theorem dX10_sum_23 : decode cX10_sum 23 = .ok (.iconst 4, 1) := by decide +kernel
theorem dX10_sum_24 : decode cX10_sum 24 = .ok (.invokestatic 124, 3) := by decide +kernel
theorem dX10_sum_27 : decode cX10_sum 27 = .ok (.ifCond .eq 17, 3) := by decide +kernel
theorem dX10_sum_30 : decode cX10_sum 30 = .ok (.aload_n 0, 1) := by decide +kernel
theorem dX10_sum_31 : decode cX10_sum 31 = .ok (.aload_n 0, 1) := by decide +kernel
theorem dX10_sum_32 : decode cX10_sum 32 = .ok (.iload_n 1, 1) := by decide +kernel
theorem dX10_sum_33 : decode cX10_sum 33 = .ok (.iload_n 2, 1) := by decide +kernel
theorem dX10_sum_34 : decode cX10_sum 34 = .ok (.iload_n 3, 1) := by decide +kernel
theorem dX10_sum_35 : decode cX10_sum 35 = .ok (.invokevirtual 181, 3) := by decide +kernel
theorem dX10_sum_38 : decode cX10_sum 38 = .ok (.invokevirtual 174, 3) := by decide +kernel
theorem dX10_sum_41 : decode cX10_sum 41 = .ok (.goto 4, 3) := by decide +kernel
theorem dX10_sum_44 : decode cX10_sum 44 = .ok (.iconst (-1), 1) := by decide +kernel
theorem dX10_sum_45 : decode cX10_sum 45 = .ok (.ireturn, 1) := by decide +kernel
theorem dX10_provisional_0 : decode cX10_provisional 0 = .ok (.aload_n 0, 1) := by decide +kernel
theorem dX10_provisional_1 : decode cX10_provisional 1 = .ok (.iconst 0, 1) := by decide +kernel
theorem dX10_provisional_2 : decode cX10_provisional 2 = .ok (.putfield 49, 3) := by decide +kernel
theorem dX10_provisional_5 : decode cX10_provisional 5 = .ok (.aload_n 0, 1) := by decide +kernel
theorem dX10_provisional_6 : decode cX10_provisional 6 = .ok (.iload_n 1, 1) := by decide +kernel
theorem dX10_provisional_7 : decode cX10_provisional 7 = .ok (.invokevirtual 296, 3) := by decide +kernel
theorem dX10_provisional_10 : decode cX10_provisional 10 = .ok (.ifCond .eq 11, 3) := by decide +kernel
theorem dX10_provisional_13 : decode cX10_provisional 13 = .ok (.aload_n 0, 1) := by decide +kernel
theorem dX10_provisional_14 : decode cX10_provisional 14 = .ok (.iload_n 2, 1) := by decide +kernel
theorem dX10_provisional_15 : decode cX10_provisional 15 = .ok (.invokevirtual 320, 3) := by decide +kernel
theorem dX10_provisional_18 : decode cX10_provisional 18 = .ok (.ifCond .ne 5, 3) := by decide +kernel
theorem dX10_provisional_21 : decode cX10_provisional 21 = .ok (.iconst (-1), 1) := by decide +kernel
theorem dX10_provisional_22 : decode cX10_provisional 22 = .ok (.ireturn, 1) := by decide +kernel
theorem dX10_provisional_23 : decode cX10_provisional 23 = .ok (.iload_n 2, 1) := by decide +kernel
theorem dX10_provisional_24 : decode cX10_provisional 24 = .ok (.aload_n 0, 1) := by decide +kernel
theorem dX10_provisional_25 : decode cX10_provisional 25 = .ok (.iconst 0, 1) := by decide +kernel
theorem dX10_provisional_26 : decode cX10_provisional 26 = .ok (.invokevirtual 174, 3) := by decide +kernel
theorem dX10_provisional_29 : decode cX10_provisional 29 = .ok (.if_icmp .le 6, 3) := by decide +kernel
theorem dX10_provisional_32 : decode cX10_provisional 32 = .ok (.bipush (-2), 2) := by decide +kernel
theorem dX10_provisional_34 : decode cX10_provisional 34 = .ok (.ireturn, 1) := by decide +kernel
theorem dX10_provisional_35 : decode cX10_provisional 35 = .ok (.iload_n 2, 1) := by decide +kernel
theorem dX10_provisional_36 : decode cX10_provisional 36 = .ok (.aload_n 0, 1) := by decide +kernel
theorem dX10_provisional_37 : decode cX10_provisional 37 = .ok (.iconst 0, 1) := by decide +kernel
theorem dX10_provisional_38 : decode cX10_provisional 38 = .ok (.invokevirtual 174, 3) := by decide +kernel
theorem dX10_provisional_41 : decode cX10_provisional 41 = .ok (.if_icmp .ge 20, 3) := by decide +kernel
theorem dX10_provisional_44 : decode cX10_provisional 44 = .ok (.aload_n 0, 1) := by decide +kernel
theorem dX10_provisional_45 : decode cX10_provisional 45 = .ok (.sipush 1289, 3) := by decide +kernel
theorem dX10_provisional_48 : decode cX10_provisional 48 = .ok (.bipush 64, 2) := by decide +kernel
theorem dX10_provisional_50 : decode cX10_provisional 50 = .ok (.iload_n 1, 1) := by decide +kernel
theorem dX10_provisional_51 : decode cX10_provisional 51 = .ok (.imul, 1) := by decide +kernel
theorem dX10_provisional_52 : decode cX10_provisional 52 = .ok (.iadd, 1) := by decide +kernel
theorem dX10_provisional_53 : decode cX10_provisional 53 = .ok (.iload_n 2, 1) := by decide +kernel
theorem dX10_provisional_54 : decode cX10_provisional 54 = .ok (.iadd, 1) := by decide +kernel
theorem dX10_provisional_55 : decode cX10_provisional 55 = .ok (.invokevirtual 174, 3) := by decide +kernel
theorem dX10_provisional_58 : decode cX10_provisional 58 = .ok (.goto 15, 3) := by decide +kernel
theorem dX10_provisional_61 : decode cX10_provisional 61 = .ok (.aload_n 0, 1) := by decide +kernel
theorem dX10_provisional_62 : decode cX10_provisional 62 = .ok (.iload_n 1, 1) := by decide +kernel
theorem dX10_provisional_63 : decode cX10_provisional 63 = .ok (.iload_n 2, 1) := by decide +kernel
theorem dX10_provisional_64 : decode cX10_provisional 64 = .ok (.aload_n 0, 1) := by decide +kernel
theorem dX10_provisional_65 : decode cX10_provisional 65 = .ok (.iload_n 1, 1) := by decide +kernel
theorem dX10_provisional_66 : decode cX10_provisional 66 = .ok (.iconst 2, 1) := by decide +kernel
theorem dX10_provisional_67 : decode cX10_provisional 67 = .ok (.invokevirtual 115, 3) := by decide +kernel
theorem dX10_provisional_70 : decode cX10_provisional 70 = .ok (.invokevirtual 246, 3) := by decide +kernel
theorem dX10_provisional_73 : decode cX10_provisional 73 = .ok (.ireturn, 1) := by decide +kernel
theorem dX10_recovered_0 : decode cX10_recovered 0 = .ok (.aload_n 0, 1) := by decide +kernel
theorem dX10_recovered_1 : decode cX10_recovered 1 = .ok (.iconst 0, 1) := by decide +kernel
theorem dX10_recovered_2 : decode cX10_recovered 2 = .ok (.putfield 49, 3) := by decide +kernel
theorem dX10_recovered_5 : decode cX10_recovered 5 = .ok (.aload_n 0, 1) := by decide +kernel
theorem dX10_recovered_6 : decode cX10_recovered 6 = .ok (.iload_n 1, 1) := by decide +kernel
theorem dX10_recovered_7 : decode cX10_recovered 7 = .ok (.invokevirtual 296, 3) := by decide +kernel
theorem dX10_recovered_10 : decode cX10_recovered 10 = .ok (.ifCond .eq 11, 3) := by decide +kernel
theorem dX10_recovered_13 : decode cX10_recovered 13 = .ok (.aload_n 0, 1) := by decide +kernel
theorem dX10_recovered_14 : decode cX10_recovered 14 = .ok (.iload_n 2, 1) := by decide +kernel
theorem dX10_recovered_15 : decode cX10_recovered 15 = .ok (.invokevirtual 320, 3) := by decide +kernel
theorem dX10_recovered_18 : decode cX10_recovered 18 = .ok (.ifCond .ne 5, 3) := by decide +kernel
theorem dX10_recovered_21 : decode cX10_recovered 21 = .ok (.iconst (-1), 1) := by decide +kernel
theorem dX10_recovered_22 : decode cX10_recovered 22 = .ok (.ireturn, 1) := by decide +kernel
theorem dX10_recovered_23 : decode cX10_recovered 23 = .ok (.iload_n 2, 1) := by decide +kernel
theorem dX10_recovered_24 : decode cX10_recovered 24 = .ok (.aload_n 0, 1) := by decide +kernel
theorem dX10_recovered_25 : decode cX10_recovered 25 = .ok (.iconst 0, 1) := by decide +kernel
theorem dX10_recovered_26 : decode cX10_recovered 26 = .ok (.invokevirtual 174, 3) := by decide +kernel
theorem dX10_recovered_29 : decode cX10_recovered 29 = .ok (.if_icmp .ge 20, 3) := by decide +kernel
theorem dX10_recovered_32 : decode cX10_recovered 32 = .ok (.aload_n 0, 1) := by decide +kernel
theorem dX10_recovered_33 : decode cX10_recovered 33 = .ok (.sipush 1545, 3) := by decide +kernel
theorem dX10_recovered_36 : decode cX10_recovered 36 = .ok (.bipush 64, 2) := by decide +kernel
theorem dX10_recovered_38 : decode cX10_recovered 38 = .ok (.iload_n 1, 1) := by decide +kernel
theorem dX10_recovered_39 : decode cX10_recovered 39 = .ok (.imul, 1) := by decide +kernel
theorem dX10_recovered_40 : decode cX10_recovered 40 = .ok (.iadd, 1) := by decide +kernel
theorem dX10_recovered_41 : decode cX10_recovered 41 = .ok (.iload_n 2, 1) := by decide +kernel
theorem dX10_recovered_42 : decode cX10_recovered 42 = .ok (.iadd, 1) := by decide +kernel
theorem dX10_recovered_43 : decode cX10_recovered 43 = .ok (.invokevirtual 174, 3) := by decide +kernel
theorem dX10_recovered_46 : decode cX10_recovered 46 = .ok (.goto 5, 3) := by decide +kernel
theorem dX10_recovered_49 : decode cX10_recovered 49 = .ok (.bipush (-2), 2) := by decide +kernel
theorem dX10_recovered_51 : decode cX10_recovered 51 = .ok (.ireturn, 1) := by decide +kernel
theorem dX10_isYear_0 : decode cX10_isYear 0 = .ok (.aload_n 0, 1) := by decide +kernel
theorem dX10_isYear_1 : decode cX10_isYear 1 = .ok (.iload_n 1, 1) := by decide +kernel
theorem dX10_isYear_2 : decode cX10_isYear 2 = .ok (.invokevirtual 296, 3) := by decide +kernel
theorem dX10_isYear_5 : decode cX10_isYear 5 = .ok (.ifCond .eq 19, 3) := by decide +kernel
theorem dX10_isYear_8 : decode cX10_isYear 8 = .ok (.iload_n 2, 1) := by decide +kernel
theorem dX10_isYear_9 : decode cX10_isYear 9 = .ok (.ifCond .lt 15, 3) := by decide +kernel
theorem dX10_isYear_12 : decode cX10_isYear 12 = .ok (.iload_n 2, 1) := by decide +kernel
theorem dX10_isYear_13 : decode cX10_isYear 13 = .ok (.aload_n 0, 1) := by decide +kernel
theorem dX10_isYear_14 : decode cX10_isYear 14 = .ok (.invokevirtual 233, 3) := by decide +kernel
theorem dX10_isYear_17 : decode cX10_isYear 17 = .ok (.if_icmp .gt 7, 3) := by decide +kernel
theorem dX10_isYear_20 : decode cX10_isYear 20 = .ok (.iconst 1, 1) := by decide +kernel
theorem dX10_isYear_21 : decode cX10_isYear 21 = .ok (.goto 4, 3) := by decide +kernel
theorem dX10_isYear_24 : decode cX10_isYear 24 = .ok (.iconst 0, 1) := by decide +kernel
theorem dX10_isYear_25 : decode cX10_isYear 25 = .ok (.ireturn, 1) := by decide +kernel
theorem dX10_backOf_0 : decode cX10_backOf 0 = .ok (.aload_n 0, 1) := by decide +kernel
theorem dX10_backOf_1 : decode cX10_backOf 1 = .ok (.aload_n 0, 1) := by decide +kernel
theorem dX10_backOf_2 : decode cX10_backOf 2 = .ok (.iload_n 1, 1) := by decide +kernel
theorem dX10_backOf_3 : decode cX10_backOf 3 = .ok (.iload_n 2, 1) := by decide +kernel
theorem dX10_backOf_4 : decode cX10_backOf 4 = .ok (.invokevirtual 291, 3) := by decide +kernel
theorem dX10_backOf_7 : decode cX10_backOf 7 = .ok (.aload_n 0, 1) := by decide +kernel
theorem dX10_backOf_8 : decode cX10_backOf 8 = .ok (.getfield 32, 3) := by decide +kernel
theorem dX10_backOf_11 : decode cX10_backOf 11 = .ok (.iconst 2, 1) := by decide +kernel
theorem dX10_backOf_12 : decode cX10_backOf 12 = .ok (.iaload, 1) := by decide +kernel
theorem dX10_backOf_13 : decode cX10_backOf 13 = .ok (.invokevirtual 249, 3) := by decide +kernel
theorem dX10_backOf_16 : decode cX10_backOf 16 = .ok (.ireturn, 1) := by decide +kernel
theorem dX10_annual_0 : decode cX10_annual 0 = .ok (.aload_n 0, 1) := by decide +kernel
theorem dX10_annual_1 : decode cX10_annual 1 = .ok (.iconst 0, 1) := by decide +kernel
theorem dX10_annual_2 : decode cX10_annual 2 = .ok (.putfield 49, 3) := by decide +kernel
theorem dX10_annual_5 : decode cX10_annual 5 = .ok (.aload_n 0, 1) := by decide +kernel
theorem dX10_annual_6 : decode cX10_annual 6 = .ok (.iload_n 1, 1) := by decide +kernel
theorem dX10_annual_7 : decode cX10_annual 7 = .ok (.iload_n 2, 1) := by decide +kernel
theorem dX10_annual_8 : decode cX10_annual 8 = .ok (.invokevirtual 323, 3) := by decide +kernel
theorem dX10_annual_11 : decode cX10_annual 11 = .ok (.ifCond .eq 12, 3) := by decide +kernel
theorem dX10_annual_14 : decode cX10_annual 14 = .ok (.iload_n 3, 1) := by decide +kernel
theorem dX10_annual_15 : decode cX10_annual 15 = .ok (.iconst 0, 1) := by decide +kernel
theorem dX10_annual_16 : decode cX10_annual 16 = .ok (.iconst 3, 1) := by decide +kernel
theorem dX10_annual_17 : decode cX10_annual 17 = .ok (.invokestatic 124, 3) := by decide +kernel
theorem dX10_annual_20 : decode cX10_annual 20 = .ok (.ifCond .ne 7, 3) := by decide +kernel
theorem dX10_annual_23 : decode cX10_annual 23 = .ok (.ldc_w 326, 3) := by decide +kernel
theorem dX10_annual_26 : decode cX10_annual 26 = .ok (.ireturn, 1) := by decide +kernel
theorem dX10_annual_27 : decode cX10_annual 27 = .ok (.iload_n 3, 1) := by decide +kernel
theorem dX10_annual_28 : decode cX10_annual 28 = .ok (.ifCond .ne 10, 3) := by decide +kernel
theorem dX10_annual_31 : decode cX10_annual 31 = .ok (.aload_n 0, 1) := by decide +kernel
theorem dX10_annual_32 : decode cX10_annual 32 = .ok (.iload_n 1, 1) := by decide +kernel
theorem dX10_annual_33 : decode cX10_annual 33 = .ok (.iload_n 2, 1) := by decide +kernel
theorem dX10_annual_34 : decode cX10_annual 34 = .ok (.invokevirtual 291, 3) := by decide +kernel
theorem dX10_annual_37 : decode cX10_annual 37 = .ok (.ireturn, 1) := by decide +kernel
theorem dX10_annual_38 : decode cX10_annual 38 = .ok (.aload_n 0, 1) := by decide +kernel
theorem dX10_annual_39 : decode cX10_annual 39 = .ok (.iload_n 1, 1) := by decide +kernel
theorem dX10_annual_40 : decode cX10_annual 40 = .ok (.iload_n 2, 1) := by decide +kernel
theorem dX10_annual_41 : decode cX10_annual 41 = .ok (.invokevirtual 327, 3) := by decide +kernel
theorem dX10_annual_44 : decode cX10_annual 44 = .ok (.istore 4, 2) := by decide +kernel
theorem dX10_annual_46 : decode cX10_annual 46 = .ok (.iload_n 3, 1) := by decide +kernel
theorem dX10_annual_47 : decode cX10_annual 47 = .ok (.iconst 1, 1) := by decide +kernel
theorem dX10_annual_48 : decode cX10_annual 48 = .ok (.if_icmp .ne 8, 3) := by decide +kernel
theorem dX10_annual_51 : decode cX10_annual 51 = .ok (.iload 4, 2) := by decide +kernel
theorem dX10_annual_53 : decode cX10_annual 53 = .ok (.goto 32, 3) := by decide +kernel
theorem dX10_annual_56 : decode cX10_annual 56 = .ok (.iload_n 3, 1) := by decide +kernel
theorem dX10_annual_57 : decode cX10_annual 57 = .ok (.iconst 2, 1) := by decide +kernel
theorem dX10_annual_58 : decode cX10_annual 58 = .ok (.if_icmp .ne 18, 3) := by decide +kernel
theorem dX10_annual_61 : decode cX10_annual 61 = .ok (.aload_n 0, 1) := by decide +kernel
theorem dX10_annual_62 : decode cX10_annual 62 = .ok (.getfield 225, 3) := by decide +kernel
theorem dX10_annual_65 : decode cX10_annual 65 = .ok (.ifCond .eq 7, 3) := by decide +kernel
theorem dX10_annual_68 : decode cX10_annual 68 = .ok (.iconst 1, 1) := by decide +kernel
theorem dX10_annual_69 : decode cX10_annual 69 = .ok (.goto 16, 3) := by decide +kernel
theorem dX10_annual_72 : decode cX10_annual 72 = .ok (.iconst 0, 1) := by decide +kernel
theorem dX10_annual_73 : decode cX10_annual 73 = .ok (.goto 12, 3) := by decide +kernel
theorem dX10_annual_76 : decode cX10_annual 76 = .ok (.iload 4, 2) := by decide +kernel
theorem dX10_annual_78 : decode cX10_annual 78 = .ok (.aload_n 0, 1) := by decide +kernel
theorem dX10_annual_79 : decode cX10_annual 79 = .ok (.iload_n 1, 1) := by decide +kernel
theorem dX10_annual_80 : decode cX10_annual 80 = .ok (.iload_n 2, 1) := by decide +kernel
theorem dX10_annual_81 : decode cX10_annual 81 = .ok (.invokevirtual 261, 3) := by decide +kernel
theorem dX10_annual_84 : decode cX10_annual 84 = .ok (.isub, 1) := by decide +kernel
theorem dX10_annual_85 : decode cX10_annual 85 = .ok (.ireturn, 1) := by decide +kernel
theorem dX10_interval_0 : decode cX10_interval 0 = .ok (.aload_n 0, 1) := by decide +kernel
theorem dX10_interval_1 : decode cX10_interval 1 = .ok (.iconst 0, 1) := by decide +kernel
theorem dX10_interval_2 : decode cX10_interval 2 = .ok (.putfield 49, 3) := by decide +kernel
theorem dX10_interval_5 : decode cX10_interval 5 = .ok (.aload_n 0, 1) := by decide +kernel
theorem dX10_interval_6 : decode cX10_interval 6 = .ok (.iload_n 1, 1) := by decide +kernel
theorem dX10_interval_7 : decode cX10_interval 7 = .ok (.invokevirtual 302, 3) := by decide +kernel
theorem dX10_interval_10 : decode cX10_interval 10 = .ok (.ifCond .eq 39, 3) := by decide +kernel
theorem dX10_interval_13 : decode cX10_interval 13 = .ok (.iload_n 2, 1) := by decide +kernel
theorem dX10_interval_14 : decode cX10_interval 14 = .ok (.iconst 0, 1) := by decide +kernel
theorem dX10_interval_15 : decode cX10_interval 15 = .ok (.aload_n 0, 1) := by decide +kernel
theorem dX10_interval_16 : decode cX10_interval 16 = .ok (.iload_n 1, 1) := by decide +kernel
theorem dX10_interval_17 : decode cX10_interval 17 = .ok (.iconst 4, 1) := by decide +kernel
theorem dX10_interval_18 : decode cX10_interval 18 = .ok (.invokevirtual 256, 3) := by decide +kernel
theorem dX10_interval_21 : decode cX10_interval 21 = .ok (.iconst 1, 1) := by decide +kernel
theorem dX10_interval_22 : decode cX10_interval 22 = .ok (.isub, 1) := by decide +kernel
theorem dX10_interval_23 : decode cX10_interval 23 = .ok (.invokestatic 124, 3) := by decide +kernel
theorem dX10_interval_26 : decode cX10_interval 26 = .ok (.ifCond .eq 23, 3) := by decide +kernel
theorem dX10_interval_29 : decode cX10_interval 29 = .ok (.iload_n 3, 1) := by decide +kernel
theorem dX10_interval_30 : decode cX10_interval 30 = .ok (.iconst 0, 1) := by decide +kernel
theorem dX10_interval_31 : decode cX10_interval 31 = .ok (.iconst 3, 1) := by decide +kernel
theorem dX10_interval_32 : decode cX10_interval 32 = .ok (.invokestatic 124, 3) := by decide +kernel
theorem dX10_interval_35 : decode cX10_interval 35 = .ok (.ifCond .eq 14, 3) := by decide +kernel
theorem dX10_interval_38 : decode cX10_interval 38 = .ok (.iload_n 2, 1) := by decide +kernel
theorem dX10_interval_39 : decode cX10_interval 39 = .ok (.aload_n 0, 1) := by decide +kernel
theorem dX10_interval_40 : decode cX10_interval 40 = .ok (.iload_n 1, 1) := by decide +kernel
theorem dX10_interval_41 : decode cX10_interval 41 = .ok (.bipush 47, 2) := by decide +kernel
theorem dX10_interval_43 : decode cX10_interval 43 = .ok (.invokevirtual 256, 3) := by decide +kernel
theorem dX10_interval_46 : decode cX10_interval 46 = .ok (.if_icmp .lt 7, 3) := by decide +kernel
theorem dX10_interval_49 : decode cX10_interval 49 = .ok (.ldc_w 326, 3) := by decide +kernel
theorem dX10_interval_52 : decode cX10_interval 52 = .ok (.ireturn, 1) := by decide +kernel
theorem dX10_interval_53 : decode cX10_interval 53 = .ok (.iload_n 3, 1) := by decide +kernel
theorem dX10_interval_54 : decode cX10_interval 54 = .ok (.ifCond .ne 16, 3) := by decide +kernel
theorem dX10_interval_57 : decode cX10_interval 57 = .ok (.aload_n 0, 1) := by decide +kernel
theorem dX10_interval_58 : decode cX10_interval 58 = .ok (.iload_n 1, 1) := by decide +kernel
theorem dX10_interval_59 : decode cX10_interval 59 = .ok (.iconst 5, 1) := by decide +kernel
theorem dX10_interval_60 : decode cX10_interval 60 = .ok (.invokevirtual 256, 3) := by decide +kernel
theorem dX10_interval_63 : decode cX10_interval 63 = .ok (.iconst 4, 1) := by decide +kernel
theorem dX10_interval_64 : decode cX10_interval 64 = .ok (.idiv, 1) := by decide +kernel
theorem dX10_interval_65 : decode cX10_interval 65 = .ok (.iload_n 2, 1) := by decide +kernel
theorem dX10_interval_66 : decode cX10_interval 66 = .ok (.iadd, 1) := by decide +kernel
theorem dX10_interval_67 : decode cX10_interval 67 = .ok (.goto 46, 3) := by decide +kernel
theorem dX10_interval_70 : decode cX10_interval 70 = .ok (.iload_n 3, 1) := by decide +kernel
theorem dX10_interval_71 : decode cX10_interval 71 = .ok (.iconst 1, 1) := by decide +kernel
theorem dX10_interval_72 : decode cX10_interval 72 = .ok (.if_icmp .ne 15, 3) := by decide +kernel
theorem dX10_interval_75 : decode cX10_interval 75 = .ok (.aload_n 0, 1) := by decide +kernel
theorem dX10_interval_76 : decode cX10_interval 76 = .ok (.iload_n 1, 1) := by decide +kernel
theorem dX10_interval_77 : decode cX10_interval 77 = .ok (.bipush 17, 2) := by decide +kernel
theorem dX10_interval_79 : decode cX10_interval 79 = .ok (.iload_n 2, 1) := by decide +kernel
theorem dX10_interval_80 : decode cX10_interval 80 = .ok (.iadd, 1) := by decide +kernel
theorem dX10_interval_81 : decode cX10_interval 81 = .ok (.invokevirtual 256, 3) := by decide +kernel
theorem dX10_interval_84 : decode cX10_interval 84 = .ok (.goto 29, 3) := by decide +kernel
theorem dX10_interval_87 : decode cX10_interval 87 = .ok (.iload_n 3, 1) := by decide +kernel
theorem dX10_interval_88 : decode cX10_interval 88 = .ok (.iconst 2, 1) := by decide +kernel
theorem dX10_interval_89 : decode cX10_interval 89 = .ok (.if_icmp .ne 15, 3) := by decide +kernel
theorem dX10_interval_92 : decode cX10_interval 92 = .ok (.aload_n 0, 1) := by decide +kernel
theorem dX10_interval_93 : decode cX10_interval 93 = .ok (.iload_n 1, 1) := by decide +kernel
theorem dX10_interval_94 : decode cX10_interval 94 = .ok (.bipush 27, 2) := by decide +kernel
theorem dX10_interval_96 : decode cX10_interval 96 = .ok (.iload_n 2, 1) := by decide +kernel
theorem dX10_interval_97 : decode cX10_interval 97 = .ok (.iadd, 1) := by decide +kernel
theorem dX10_interval_98 : decode cX10_interval 98 = .ok (.invokevirtual 256, 3) := by decide +kernel
theorem dX10_interval_101 : decode cX10_interval 101 = .ok (.goto 12, 3) := by decide +kernel
theorem dX10_interval_104 : decode cX10_interval 104 = .ok (.aload_n 0, 1) := by decide +kernel
theorem dX10_interval_105 : decode cX10_interval 105 = .ok (.iload_n 1, 1) := by decide +kernel
theorem dX10_interval_106 : decode cX10_interval 106 = .ok (.bipush 37, 2) := by decide +kernel
theorem dX10_interval_108 : decode cX10_interval 108 = .ok (.iload_n 2, 1) := by decide +kernel
theorem dX10_interval_109 : decode cX10_interval 109 = .ok (.iadd, 1) := by decide +kernel
theorem dX10_interval_110 : decode cX10_interval 110 = .ok (.invokevirtual 256, 3) := by decide +kernel
theorem dX10_interval_113 : decode cX10_interval 113 = .ok (.ireturn, 1) := by decide +kernel
theorem dX10_taken_0 : decode cX10_taken 0 = .ok (.aload_n 0, 1) := by decide +kernel
theorem dX10_taken_1 : decode cX10_taken 1 = .ok (.iconst 0, 1) := by decide +kernel
theorem dX10_taken_2 : decode cX10_taken 2 = .ok (.putfield 49, 3) := by decide +kernel
theorem dX10_taken_5 : decode cX10_taken 5 = .ok (.aload_n 0, 1) := by decide +kernel
theorem dX10_taken_6 : decode cX10_taken 6 = .ok (.iload_n 1, 1) := by decide +kernel
theorem dX10_taken_7 : decode cX10_taken 7 = .ok (.invokevirtual 302, 3) := by decide +kernel
theorem dX10_taken_10 : decode cX10_taken 10 = .ok (.ifCond .eq 13, 3) := by decide +kernel
theorem dX10_taken_13 : decode cX10_taken 13 = .ok (.aload_n 0, 1) := by decide +kernel
theorem dX10_taken_14 : decode cX10_taken 14 = .ok (.iload_n 1, 1) := by decide +kernel
theorem dX10_taken_15 : decode cX10_taken 15 = .ok (.bipush 10, 2) := by decide +kernel
theorem dX10_taken_17 : decode cX10_taken 17 = .ok (.invokevirtual 256, 3) := by decide +kernel
theorem dX10_taken_20 : decode cX10_taken 20 = .ok (.goto 6, 3) := by decide +kernel
theorem dX10_taken_23 : decode cX10_taken 23 = .ok (.ldc_w 326, 3) := by decide +kernel
theorem dX10_taken_26 : decode cX10_taken 26 = .ok (.ireturn, 1) := by decide +kernel
theorem dX10_last_0 : decode cX10_last 0 = .ok (.aload_n 0, 1) := by decide +kernel
theorem dX10_last_1 : decode cX10_last 1 = .ok (.iconst 0, 1) := by decide +kernel
theorem dX10_last_2 : decode cX10_last 2 = .ok (.putfield 49, 3) := by decide +kernel
theorem dX10_last_5 : decode cX10_last 5 = .ok (.aload_n 0, 1) := by decide +kernel
theorem dX10_last_6 : decode cX10_last 6 = .ok (.iload_n 1, 1) := by decide +kernel
theorem dX10_last_7 : decode cX10_last 7 = .ok (.invokevirtual 302, 3) := by decide +kernel
theorem dX10_last_10 : decode cX10_last 10 = .ok (.ifCond .eq 24, 3) := by decide +kernel
theorem dX10_last_13 : decode cX10_last 13 = .ok (.aload_n 0, 1) := by decide +kernel
theorem dX10_last_14 : decode cX10_last 14 = .ok (.iload_n 1, 1) := by decide +kernel
theorem dX10_last_15 : decode cX10_last 15 = .ok (.bipush 11, 2) := by decide +kernel
theorem dX10_last_17 : decode cX10_last 17 = .ok (.invokevirtual 256, 3) := by decide +kernel
theorem dX10_last_20 : decode cX10_last 20 = .ok (.iconst 1, 1) := by decide +kernel
theorem dX10_last_21 : decode cX10_last 21 = .ok (.if_icmp .ne 13, 3) := by decide +kernel
theorem dX10_last_24 : decode cX10_last 24 = .ok (.aload_n 0, 1) := by decide +kernel
theorem dX10_last_25 : decode cX10_last 25 = .ok (.iload_n 1, 1) := by decide +kernel
theorem dX10_last_26 : decode cX10_last 26 = .ok (.bipush 12, 2) := by decide +kernel
theorem dX10_last_28 : decode cX10_last 28 = .ok (.invokevirtual 256, 3) := by decide +kernel
theorem dX10_last_31 : decode cX10_last 31 = .ok (.goto 6, 3) := by decide +kernel
theorem dX10_last_34 : decode cX10_last 34 = .ok (.ldc_w 326, 3) := by decide +kernel
theorem dX10_last_37 : decode cX10_last 37 = .ok (.ireturn, 1) := by decide +kernel
theorem dX10_booked_0 : decode cX10_booked 0 = .ok (.aload_n 0, 1) := by decide +kernel
theorem dX10_booked_1 : decode cX10_booked 1 = .ok (.iconst 0, 1) := by decide +kernel
theorem dX10_booked_2 : decode cX10_booked 2 = .ok (.putfield 49, 3) := by decide +kernel
theorem dX10_booked_5 : decode cX10_booked 5 = .ok (.iload_n 1, 1) := by decide +kernel
theorem dX10_booked_6 : decode cX10_booked 6 = .ok (.ifCond .lt 39, 3) := by decide +kernel
theorem dX10_booked_9 : decode cX10_booked 9 = .ok (.iload_n 1, 1) := by decide +kernel
theorem dX10_booked_10 : decode cX10_booked 10 = .ok (.aload_n 0, 1) := by decide +kernel
theorem dX10_booked_11 : decode cX10_booked 11 = .ok (.sipush 1867, 3) := by decide +kernel
theorem dX10_booked_14 : decode cX10_booked 14 = .ok (.invokevirtual 174, 3) := by decide +kernel
theorem dX10_booked_17 : decode cX10_booked 17 = .ok (.if_icmp .ge 28, 3) := by decide +kernel
theorem dX10_booked_20 : decode cX10_booked 20 = .ok (.iload_n 2, 1) := by decide +kernel
theorem dX10_booked_21 : decode cX10_booked 21 = .ok (.iconst 0, 1) := by decide +kernel
theorem dX10_booked_22 : decode cX10_booked 22 = .ok (.iconst 4, 1) := by decide +kernel
theorem dX10_booked_23 : decode cX10_booked 23 = .ok (.invokestatic 124, 3) := by decide +kernel
theorem dX10_booked_26 : decode cX10_booked 26 = .ok (.ifCond .eq 19, 3) := by decide +kernel
theorem dX10_booked_29 : decode cX10_booked 29 = .ok (.aload_n 0, 1) := by decide +kernel
theorem dX10_booked_30 : decode cX10_booked 30 = .ok (.sipush 1868, 3) := by decide +kernel
theorem dX10_booked_33 : decode cX10_booked 33 = .ok (.iconst 5, 1) := by decide +kernel
theorem dX10_booked_34 : decode cX10_booked 34 = .ok (.iload_n 1, 1) := by decide +kernel
theorem dX10_booked_35 : decode cX10_booked 35 = .ok (.imul, 1) := by decide +kernel
theorem dX10_booked_36 : decode cX10_booked 36 = .ok (.iadd, 1) := by decide +kernel
theorem dX10_booked_37 : decode cX10_booked 37 = .ok (.iload_n 2, 1) := by decide +kernel
theorem dX10_booked_38 : decode cX10_booked 38 = .ok (.iadd, 1) := by decide +kernel
theorem dX10_booked_39 : decode cX10_booked 39 = .ok (.invokevirtual 174, 3) := by decide +kernel
theorem dX10_booked_42 : decode cX10_booked 42 = .ok (.goto 6, 3) := by decide +kernel
theorem dX10_booked_45 : decode cX10_booked 45 = .ok (.ldc_w 326, 3) := by decide +kernel
theorem dX10_booked_48 : decode cX10_booked 48 = .ok (.ireturn, 1) := by decide +kernel
theorem dX10_total_0 : decode cX10_total 0 = .ok (.aload_n 0, 1) := by decide +kernel
theorem dX10_total_1 : decode cX10_total 1 = .ok (.iconst 0, 1) := by decide +kernel
theorem dX10_total_2 : decode cX10_total 2 = .ok (.putfield 49, 3) := by decide +kernel
theorem dX10_total_5 : decode cX10_total 5 = .ok (.aload_n 0, 1) := by decide +kernel
theorem dX10_total_6 : decode cX10_total 6 = .ok (.iload_n 1, 1) := by decide +kernel
theorem dX10_total_7 : decode cX10_total 7 = .ok (.invokevirtual 296, 3) := by decide +kernel
theorem dX10_total_10 : decode cX10_total 10 = .ok (.ifCond .eq 28, 3) := by decide +kernel
theorem dX10_total_13 : decode cX10_total 13 = .ok (.iload_n 2, 1) := by decide +kernel
theorem dX10_total_14 : decode cX10_total 14 = .ok (.iconst 0, 1) := by decide +kernel
theorem dX10_total_15 : decode cX10_total 15 = .ok (.iconst 3, 1) := by decide +kernel
theorem dX10_total_16 : decode cX10_total 16 = .ok (.invokestatic 124, 3) := by decide +kernel
theorem dX10_total_19 : decode cX10_total 19 = .ok (.ifCond .eq 19, 3) := by decide +kernel
theorem dX10_total_22 : decode cX10_total 22 = .ok (.aload_n 0, 1) := by decide +kernel
theorem dX10_total_23 : decode cX10_total 23 = .ok (.sipush 2068, 3) := by decide +kernel
theorem dX10_total_26 : decode cX10_total 26 = .ok (.iconst 4, 1) := by decide +kernel
theorem dX10_total_27 : decode cX10_total 27 = .ok (.iload_n 1, 1) := by decide +kernel
theorem dX10_total_28 : decode cX10_total 28 = .ok (.imul, 1) := by decide +kernel
theorem dX10_total_29 : decode cX10_total 29 = .ok (.iadd, 1) := by decide +kernel
theorem dX10_total_30 : decode cX10_total 30 = .ok (.iload_n 2, 1) := by decide +kernel
theorem dX10_total_31 : decode cX10_total 31 = .ok (.iadd, 1) := by decide +kernel
theorem dX10_total_32 : decode cX10_total 32 = .ok (.invokevirtual 174, 3) := by decide +kernel
theorem dX10_total_35 : decode cX10_total 35 = .ok (.goto 6, 3) := by decide +kernel
theorem dX10_total_38 : decode cX10_total 38 = .ok (.ldc_w 326, 3) := by decide +kernel
theorem dX10_total_41 : decode cX10_total 41 = .ok (.ireturn, 1) := by decide +kernel
theorem dX10_by_0 : decode cX10_by 0 = .ok (.aload_n 0, 1) := by decide +kernel
theorem dX10_by_1 : decode cX10_by 1 = .ok (.iconst 0, 1) := by decide +kernel
theorem dX10_by_2 : decode cX10_by 2 = .ok (.putfield 49, 3) := by decide +kernel
theorem dX10_by_5 : decode cX10_by 5 = .ok (.aload_n 0, 1) := by decide +kernel
theorem dX10_by_6 : decode cX10_by 6 = .ok (.iload_n 1, 1) := by decide +kernel
theorem dX10_by_7 : decode cX10_by 7 = .ok (.iload_n 2, 1) := by decide +kernel
theorem dX10_by_8 : decode cX10_by 8 = .ok (.invokevirtual 323, 3) := by decide +kernel
theorem dX10_by_11 : decode cX10_by 11 = .ok (.ifCond .eq 35, 3) := by decide +kernel
theorem dX10_by_14 : decode cX10_by 14 = .ok (.iload_n 3, 1) := by decide +kernel
theorem dX10_by_15 : decode cX10_by 15 = .ok (.iconst 0, 1) := by decide +kernel
theorem dX10_by_16 : decode cX10_by 16 = .ok (.iconst 2, 1) := by decide +kernel
theorem dX10_by_17 : decode cX10_by 17 = .ok (.invokestatic 124, 3) := by decide +kernel
theorem dX10_by_20 : decode cX10_by 20 = .ok (.ifCond .eq 26, 3) := by decide +kernel
theorem dX10_by_23 : decode cX10_by 23 = .ok (.iload 4, 2) := by decide +kernel
theorem dX10_by_25 : decode cX10_by 25 = .ok (.iconst 0, 1) := by decide +kernel
theorem dX10_by_26 : decode cX10_by 26 = .ok (.iconst 2, 1) := by decide +kernel
theorem dX10_by_27 : decode cX10_by 27 = .ok (.invokestatic 124, 3) := by decide +kernel
theorem dX10_by_30 : decode cX10_by 30 = .ok (.ifCond .eq 16, 3) := by decide +kernel
theorem dX10_by_33 : decode cX10_by 33 = .ok (.iload 5, 2) := by decide +kernel
theorem dX10_by_35 : decode cX10_by 35 = .ok (.bipush 10, 2) := by decide +kernel
theorem dX10_by_37 : decode cX10_by 37 = .ok (.sipush 1000, 3) := by decide +kernel
theorem dX10_by_40 : decode cX10_by 40 = .ok (.invokestatic 124, 3) := by decide +kernel
theorem dX10_by_43 : decode cX10_by 43 = .ok (.ifCond .ne 7, 3) := by decide +kernel
theorem dX10_by_46 : decode cX10_by 46 = .ok (.ldc_w 326, 3) := by decide +kernel
theorem dX10_by_49 : decode cX10_by 49 = .ok (.ireturn, 1) := by decide +kernel
theorem dX10_by_50 : decode cX10_by 50 = .ok (.aload_n 0, 1) := by decide +kernel
theorem dX10_by_51 : decode cX10_by 51 = .ok (.iload_n 1, 1) := by decide +kernel
theorem dX10_by_52 : decode cX10_by 52 = .ok (.iload_n 2, 1) := by decide +kernel
theorem dX10_by_53 : decode cX10_by 53 = .ok (.invokevirtual 230, 3) := by decide +kernel
theorem dX10_by_56 : decode cX10_by 56 = .ok (.aload_n 0, 1) := by decide +kernel
theorem dX10_by_57 : decode cX10_by 57 = .ok (.aload_n 0, 1) := by decide +kernel
theorem dX10_by_58 : decode cX10_by 58 = .ok (.iload 4, 2) := by decide +kernel
theorem dX10_by_60 : decode cX10_by 60 = .ok (.iload_n 3, 1) := by decide +kernel
theorem dX10_by_61 : decode cX10_by 61 = .ok (.iload 5, 2) := by decide +kernel
theorem dX10_by_63 : decode cX10_by 63 = .ok (.invokevirtual 222, 3) := by decide +kernel
theorem dX10_by_66 : decode cX10_by 66 = .ok (.iload_n 3, 1) := by decide +kernel
theorem dX10_by_67 : decode cX10_by 67 = .ok (.iload 5, 2) := by decide +kernel
theorem dX10_by_69 : decode cX10_by 69 = .ok (.aload_n 0, 1) := by decide +kernel
theorem dX10_by_70 : decode cX10_by 70 = .ok (.getfield 32, 3) := by decide +kernel
theorem dX10_by_73 : decode cX10_by 73 = .ok (.iconst 2, 1) := by decide +kernel
theorem dX10_by_74 : decode cX10_by 74 = .ok (.iaload, 1) := by decide +kernel
theorem dX10_by_75 : decode cX10_by 75 = .ok (.invokevirtual 227, 3) := by decide +kernel
theorem dX10_by_78 : decode cX10_by 78 = .ok (.ireturn, 1) := by decide +kernel
theorem dX10_bestMethod_0 : decode cX10_bestMethod 0 = .ok (.aload_n 0, 1) := by decide +kernel
theorem dX10_bestMethod_1 : decode cX10_bestMethod 1 = .ok (.iconst 0, 1) := by decide +kernel
theorem dX10_bestMethod_2 : decode cX10_bestMethod 2 = .ok (.putfield 49, 3) := by decide +kernel
theorem dX10_bestMethod_5 : decode cX10_bestMethod 5 = .ok (.aload_n 0, 1) := by decide +kernel
theorem dX10_bestMethod_6 : decode cX10_bestMethod 6 = .ok (.iload_n 1, 1) := by decide +kernel
theorem dX10_bestMethod_7 : decode cX10_bestMethod 7 = .ok (.invokevirtual 296, 3) := by decide +kernel
theorem dX10_bestMethod_10 : decode cX10_bestMethod 10 = .ok (.ifCond .eq 13, 3) := by decide +kernel
theorem dX10_bestMethod_13 : decode cX10_bestMethod 13 = .ok (.iload_n 2, 1) := by decide +kernel
theorem dX10_bestMethod_14 : decode cX10_bestMethod 14 = .ok (.iconst 0, 1) := by decide +kernel
theorem dX10_bestMethod_15 : decode cX10_bestMethod 15 = .ok (.bipush 15, 2) := by decide +kernel
theorem dX10_bestMethod_17 : decode cX10_bestMethod 17 = .ok (.invokestatic 124, 3) := by decide +kernel
theorem dX10_bestMethod_20 : decode cX10_bestMethod 20 = .ok (.ifCond .ne 5, 3) := by decide +kernel
theorem dX10_bestMethod_23 : decode cX10_bestMethod 23 = .ok (.iconst (-1), 1) := by decide +kernel
theorem dX10_bestMethod_24 : decode cX10_bestMethod 24 = .ok (.ireturn, 1) := by decide +kernel
theorem dX10_bestMethod_25 : decode cX10_bestMethod 25 = .ok (.iload_n 2, 1) := by decide +kernel
theorem dX10_bestMethod_26 : decode cX10_bestMethod 26 = .ok (.aload_n 0, 1) := by decide +kernel
theorem dX10_bestMethod_27 : decode cX10_bestMethod 27 = .ok (.invokevirtual 233, 3) := by decide +kernel
theorem dX10_bestMethod_30 : decode cX10_bestMethod 30 = .ok (.if_icmp .le 6, 3) := by decide +kernel
theorem dX10_bestMethod_33 : decode cX10_bestMethod 33 = .ok (.bipush (-2), 2) := by decide +kernel
theorem dX10_bestMethod_35 : decode cX10_bestMethod 35 = .ok (.ireturn, 1) := by decide +kernel
theorem dX10_bestMethod_36 : decode cX10_bestMethod 36 = .ok (.iconst 0, 1) := by decide +kernel
theorem dX10_bestMethod_37 : decode cX10_bestMethod 37 = .ok (.istore_n 3, 1) := by decide +kernel
theorem dX10_bestMethod_38 : decode cX10_bestMethod 38 = .ok (.iconst 0, 1) := by decide +kernel
theorem dX10_bestMethod_39 : decode cX10_bestMethod 39 = .ok (.istore 4, 2) := by decide +kernel
theorem dX10_bestMethod_41 : decode cX10_bestMethod 41 = .ok (.aload_n 0, 1) := by decide +kernel
theorem dX10_bestMethod_42 : decode cX10_bestMethod 42 = .ok (.iload_n 1, 1) := by decide +kernel
theorem dX10_bestMethod_43 : decode cX10_bestMethod 43 = .ok (.iload_n 2, 1) := by decide +kernel
theorem dX10_bestMethod_44 : decode cX10_bestMethod 44 = .ok (.invokevirtual 230, 3) := by decide +kernel
theorem dX10_bestMethod_47 : decode cX10_bestMethod 47 = .ok (.iconst 0, 1) := by decide +kernel
theorem dX10_bestMethod_48 : decode cX10_bestMethod 48 = .ok (.istore 5, 2) := by decide +kernel
theorem dX10_bestMethod_50 : decode cX10_bestMethod 50 = .ok (.iload 5, 2) := by decide +kernel
theorem dX10_bestMethod_52 : decode cX10_bestMethod 52 = .ok (.iconst 3, 1) := by decide +kernel
theorem dX10_bestMethod_53 : decode cX10_bestMethod 53 = .ok (.if_icmp .ge 79, 3) := by decide +kernel
theorem dX10_bestMethod_56 : decode cX10_bestMethod 56 = .ok (.aload_n 0, 1) := by decide +kernel
theorem dX10_bestMethod_57 : decode cX10_bestMethod 57 = .ok (.aload_n 0, 1) := by decide +kernel
theorem dX10_bestMethod_58 : decode cX10_bestMethod 58 = .ok (.iload 5, 2) := by decide +kernel
theorem dX10_bestMethod_60 : decode cX10_bestMethod 60 = .ok (.aload_n 0, 1) := by decide +kernel
theorem dX10_bestMethod_61 : decode cX10_bestMethod 61 = .ok (.getfield 32, 3) := by decide +kernel
theorem dX10_bestMethod_64 : decode cX10_bestMethod 64 = .ok (.iconst 0, 1) := by decide +kernel
theorem dX10_bestMethod_65 : decode cX10_bestMethod 65 = .ok (.iaload, 1) := by decide +kernel
theorem dX10_bestMethod_66 : decode cX10_bestMethod 66 = .ok (.aload_n 0, 1) := by decide +kernel
theorem dX10_bestMethod_67 : decode cX10_bestMethod 67 = .ok (.getfield 32, 3) := by decide +kernel
theorem dX10_bestMethod_70 : decode cX10_bestMethod 70 = .ok (.iconst 1, 1) := by decide +kernel
theorem dX10_bestMethod_71 : decode cX10_bestMethod 71 = .ok (.iaload, 1) := by decide +kernel
theorem dX10_bestMethod_72 : decode cX10_bestMethod 72 = .ok (.invokevirtual 222, 3) := by decide +kernel
theorem dX10_bestMethod_75 : decode cX10_bestMethod 75 = .ok (.aload_n 0, 1) := by decide +kernel
theorem dX10_bestMethod_76 : decode cX10_bestMethod 76 = .ok (.getfield 32, 3) := by decide +kernel
theorem dX10_bestMethod_79 : decode cX10_bestMethod 79 = .ok (.iconst 2, 1) := by decide +kernel
theorem dX10_bestMethod_80 : decode cX10_bestMethod 80 = .ok (.iaload, 1) := by decide +kernel
theorem dX10_bestMethod_81 : decode cX10_bestMethod 81 = .ok (.invokevirtual 249, 3) := by decide +kernel
theorem dX10_bestMethod_84 : decode cX10_bestMethod 84 = .ok (.istore 6, 2) := by decide +kernel
theorem dX10_bestMethod_86 : decode cX10_bestMethod 86 = .ok (.iload 5, 2) := by decide +kernel
theorem dX10_bestMethod_88 : decode cX10_bestMethod 88 = .ok (.ifCond .eq 10, 3) := by decide +kernel
theorem dX10_bestMethod_91 : decode cX10_bestMethod 91 = .ok (.iload 6, 2) := by decide +kernel
theorem dX10_bestMethod_93 : decode cX10_bestMethod 93 = .ok (.iload 4, 2) := by decide +kernel
theorem dX10_bestMethod_95 : decode cX10_bestMethod 95 = .ok (.if_icmp .le 8, 3) := by decide +kernel
theorem dX10_bestMethod_98 : decode cX10_bestMethod 98 = .ok (.iload 5, 2) := by decide +kernel
theorem dX10_bestMethod_100 : decode cX10_bestMethod 100 = .ok (.goto 4, 3) := by decide +kernel
theorem dX10_bestMethod_103 : decode cX10_bestMethod 103 = .ok (.iload_n 3, 1) := by decide +kernel
theorem dX10_bestMethod_104 : decode cX10_bestMethod 104 = .ok (.istore_n 3, 1) := by decide +kernel
theorem dX10_bestMethod_105 : decode cX10_bestMethod 105 = .ok (.iload 5, 2) := by decide +kernel
theorem dX10_bestMethod_107 : decode cX10_bestMethod 107 = .ok (.ifCond .eq 10, 3) := by decide +kernel
theorem dX10_bestMethod_110 : decode cX10_bestMethod 110 = .ok (.iload 6, 2) := by decide +kernel
theorem dX10_bestMethod_112 : decode cX10_bestMethod 112 = .ok (.iload 4, 2) := by decide +kernel
theorem dX10_bestMethod_114 : decode cX10_bestMethod 114 = .ok (.if_icmp .le 8, 3) := by decide +kernel
theorem dX10_bestMethod_117 : decode cX10_bestMethod 117 = .ok (.iload 6, 2) := by decide +kernel
theorem dX10_bestMethod_119 : decode cX10_bestMethod 119 = .ok (.goto 5, 3) := by decide +kernel
theorem dX10_bestMethod_122 : decode cX10_bestMethod 122 = .ok (.iload 4, 2) := by decide +kernel
theorem dX10_bestMethod_124 : decode cX10_bestMethod 124 = .ok (.istore 4, 2) := by decide +kernel
theorem dX10_bestMethod_126 : decode cX10_bestMethod 126 = .ok (.iinc 5 1, 3) := by decide +kernel
theorem dX10_bestMethod_129 : decode cX10_bestMethod 129 = .ok (.goto (-79), 3) := by decide +kernel
theorem dX10_bestMethod_132 : decode cX10_bestMethod 132 = .ok (.iload_n 3, 1) := by decide +kernel
theorem dX10_bestMethod_133 : decode cX10_bestMethod 133 = .ok (.ireturn, 1) := by decide +kernel
theorem dX10_bestStep_0 : decode cX10_bestStep 0 = .ok (.aload_n 0, 1) := by decide +kernel
theorem dX10_bestStep_1 : decode cX10_bestStep 1 = .ok (.iconst 0, 1) := by decide +kernel
theorem dX10_bestStep_2 : decode cX10_bestStep 2 = .ok (.putfield 49, 3) := by decide +kernel
theorem dX10_bestStep_5 : decode cX10_bestStep 5 = .ok (.aload_n 0, 1) := by decide +kernel
theorem dX10_bestStep_6 : decode cX10_bestStep 6 = .ok (.iload_n 1, 1) := by decide +kernel
theorem dX10_bestStep_7 : decode cX10_bestStep 7 = .ok (.invokevirtual 296, 3) := by decide +kernel
theorem dX10_bestStep_10 : decode cX10_bestStep 10 = .ok (.ifCond .eq 13, 3) := by decide +kernel
theorem dX10_bestStep_13 : decode cX10_bestStep 13 = .ok (.iload_n 2, 1) := by decide +kernel
theorem dX10_bestStep_14 : decode cX10_bestStep 14 = .ok (.iconst 0, 1) := by decide +kernel
theorem dX10_bestStep_15 : decode cX10_bestStep 15 = .ok (.bipush 15, 2) := by decide +kernel
theorem dX10_bestStep_17 : decode cX10_bestStep 17 = .ok (.invokestatic 124, 3) := by decide +kernel
theorem dX10_bestStep_20 : decode cX10_bestStep 20 = .ok (.ifCond .ne 5, 3) := by decide +kernel
theorem dX10_bestStep_23 : decode cX10_bestStep 23 = .ok (.iconst (-1), 1) := by decide +kernel
theorem dX10_bestStep_24 : decode cX10_bestStep 24 = .ok (.ireturn, 1) := by decide +kernel
theorem dX10_bestStep_25 : decode cX10_bestStep 25 = .ok (.iload_n 2, 1) := by decide +kernel
theorem dX10_bestStep_26 : decode cX10_bestStep 26 = .ok (.aload_n 0, 1) := by decide +kernel
theorem dX10_bestStep_27 : decode cX10_bestStep 27 = .ok (.invokevirtual 233, 3) := by decide +kernel
theorem dX10_bestStep_30 : decode cX10_bestStep 30 = .ok (.if_icmp .le 6, 3) := by decide +kernel
theorem dX10_bestStep_33 : decode cX10_bestStep 33 = .ok (.bipush (-2), 2) := by decide +kernel
theorem dX10_bestStep_35 : decode cX10_bestStep 35 = .ok (.ireturn, 1) := by decide +kernel
theorem dX10_bestStep_36 : decode cX10_bestStep 36 = .ok (.iconst 0, 1) := by decide +kernel
theorem dX10_bestStep_37 : decode cX10_bestStep 37 = .ok (.istore_n 3, 1) := by decide +kernel
theorem dX10_bestStep_38 : decode cX10_bestStep 38 = .ok (.iconst 0, 1) := by decide +kernel
theorem dX10_bestStep_39 : decode cX10_bestStep 39 = .ok (.istore 4, 2) := by decide +kernel
theorem dX10_bestStep_41 : decode cX10_bestStep 41 = .ok (.aload_n 0, 1) := by decide +kernel
theorem dX10_bestStep_42 : decode cX10_bestStep 42 = .ok (.iload_n 1, 1) := by decide +kernel
theorem dX10_bestStep_43 : decode cX10_bestStep 43 = .ok (.iload_n 2, 1) := by decide +kernel
theorem dX10_bestStep_44 : decode cX10_bestStep 44 = .ok (.invokevirtual 230, 3) := by decide +kernel
theorem dX10_bestStep_47 : decode cX10_bestStep 47 = .ok (.bipush 10, 2) := by decide +kernel
theorem dX10_bestStep_49 : decode cX10_bestStep 49 = .ok (.istore 5, 2) := by decide +kernel
theorem dX10_bestStep_51 : decode cX10_bestStep 51 = .ok (.iload 5, 2) := by decide +kernel
theorem dX10_bestStep_53 : decode cX10_bestStep 53 = .ok (.sipush 1000, 3) := by decide +kernel
theorem dX10_bestStep_56 : decode cX10_bestStep 56 = .ok (.if_icmp .gt 68, 3) := by decide +kernel
theorem dX10_bestStep_59 : decode cX10_bestStep 59 = .ok (.aload_n 0, 1) := by decide +kernel
theorem dX10_bestStep_60 : decode cX10_bestStep 60 = .ok (.aload_n 0, 1) := by decide +kernel
theorem dX10_bestStep_61 : decode cX10_bestStep 61 = .ok (.aload_n 0, 1) := by decide +kernel
theorem dX10_bestStep_62 : decode cX10_bestStep 62 = .ok (.iload_n 1, 1) := by decide +kernel
theorem dX10_bestStep_63 : decode cX10_bestStep 63 = .ok (.iconst 1, 1) := by decide +kernel
theorem dX10_bestStep_64 : decode cX10_bestStep 64 = .ok (.invokevirtual 115, 3) := by decide +kernel
theorem dX10_bestStep_67 : decode cX10_bestStep 67 = .ok (.aload_n 0, 1) := by decide +kernel
theorem dX10_bestStep_68 : decode cX10_bestStep 68 = .ok (.getfield 32, 3) := by decide +kernel
theorem dX10_bestStep_71 : decode cX10_bestStep 71 = .ok (.iconst 0, 1) := by decide +kernel
theorem dX10_bestStep_72 : decode cX10_bestStep 72 = .ok (.iaload, 1) := by decide +kernel
theorem dX10_bestStep_73 : decode cX10_bestStep 73 = .ok (.iload 5, 2) := by decide +kernel
theorem dX10_bestStep_75 : decode cX10_bestStep 75 = .ok (.invokevirtual 222, 3) := by decide +kernel
theorem dX10_bestStep_78 : decode cX10_bestStep 78 = .ok (.aload_n 0, 1) := by decide +kernel
theorem dX10_bestStep_79 : decode cX10_bestStep 79 = .ok (.getfield 32, 3) := by decide +kernel
theorem dX10_bestStep_82 : decode cX10_bestStep 82 = .ok (.iconst 0, 1) := by decide +kernel
theorem dX10_bestStep_83 : decode cX10_bestStep 83 = .ok (.iaload, 1) := by decide +kernel
theorem dX10_bestStep_84 : decode cX10_bestStep 84 = .ok (.iload 5, 2) := by decide +kernel
theorem dX10_bestStep_86 : decode cX10_bestStep 86 = .ok (.aload_n 0, 1) := by decide +kernel
theorem dX10_bestStep_87 : decode cX10_bestStep 87 = .ok (.getfield 32, 3) := by decide +kernel
theorem dX10_bestStep_90 : decode cX10_bestStep 90 = .ok (.iconst 2, 1) := by decide +kernel
theorem dX10_bestStep_91 : decode cX10_bestStep 91 = .ok (.iaload, 1) := by decide +kernel
theorem dX10_bestStep_92 : decode cX10_bestStep 92 = .ok (.invokevirtual 227, 3) := by decide +kernel
theorem dX10_bestStep_95 : decode cX10_bestStep 95 = .ok (.istore 6, 2) := by decide +kernel
theorem dX10_bestStep_97 : decode cX10_bestStep 97 = .ok (.iload_n 3, 1) := by decide +kernel
theorem dX10_bestStep_98 : decode cX10_bestStep 98 = .ok (.ifCond .le 13, 3) := by decide +kernel
theorem dX10_bestStep_101 : decode cX10_bestStep 101 = .ok (.iload 6, 2) := by decide +kernel
theorem dX10_bestStep_103 : decode cX10_bestStep 103 = .ok (.iload 4, 2) := by decide +kernel
theorem dX10_bestStep_105 : decode cX10_bestStep 105 = .ok (.if_icmp .gt 6, 3) := by decide +kernel
theorem dX10_bestStep_108 : decode cX10_bestStep 108 = .ok (.goto 10, 3) := by decide +kernel
theorem dX10_bestStep_111 : decode cX10_bestStep 111 = .ok (.iload 5, 2) := by decide +kernel
theorem dX10_bestStep_113 : decode cX10_bestStep 113 = .ok (.istore_n 3, 1) := by decide +kernel
theorem dX10_bestStep_114 : decode cX10_bestStep 114 = .ok (.iload 6, 2) := by decide +kernel
theorem dX10_bestStep_116 : decode cX10_bestStep 116 = .ok (.istore 4, 2) := by decide +kernel
theorem dX10_bestStep_118 : decode cX10_bestStep 118 = .ok (.iinc 5 1, 3) := by decide +kernel
theorem dX10_bestStep_121 : decode cX10_bestStep 121 = .ok (.goto (-70), 3) := by decide +kernel
theorem dX10_bestStep_124 : decode cX10_bestStep 124 = .ok (.iload_n 3, 1) := by decide +kernel
theorem dX10_bestStep_125 : decode cX10_bestStep 125 = .ok (.ireturn, 1) := by decide +kernel
theorem dX10_joint_0 : decode cX10_joint 0 = .ok (.aload_n 0, 1) := by decide +kernel
theorem dX10_joint_1 : decode cX10_joint 1 = .ok (.iconst 0, 1) := by decide +kernel
theorem dX10_joint_2 : decode cX10_joint 2 = .ok (.putfield 49, 3) := by decide +kernel
theorem dX10_joint_5 : decode cX10_joint 5 = .ok (.aload_n 0, 1) := by decide +kernel
theorem dX10_joint_6 : decode cX10_joint 6 = .ok (.iload_n 1, 1) := by decide +kernel
theorem dX10_joint_7 : decode cX10_joint 7 = .ok (.iload_n 3, 1) := by decide +kernel
theorem dX10_joint_8 : decode cX10_joint 8 = .ok (.invokevirtual 323, 3) := by decide +kernel
theorem dX10_joint_11 : decode cX10_joint 11 = .ok (.ifCond .eq 16, 3) := by decide +kernel
theorem dX10_joint_14 : decode cX10_joint 14 = .ok (.aload_n 0, 1) := by decide +kernel
theorem dX10_joint_15 : decode cX10_joint 15 = .ok (.iload_n 2, 1) := by decide +kernel
theorem dX10_joint_16 : decode cX10_joint 16 = .ok (.invokevirtual 296, 3) := by decide +kernel
theorem dX10_joint_19 : decode cX10_joint 19 = .ok (.ifCond .eq 8, 3) := by decide +kernel
theorem dX10_joint_22 : decode cX10_joint 22 = .ok (.iload_n 1, 1) := by decide +kernel
theorem dX10_joint_23 : decode cX10_joint 23 = .ok (.iload_n 2, 1) := by decide +kernel
theorem dX10_joint_24 : decode cX10_joint 24 = .ok (.if_icmp .ne 7, 3) := by decide +kernel
theorem dX10_joint_27 : decode cX10_joint 27 = .ok (.ldc_w 326, 3) := by decide +kernel
theorem dX10_joint_30 : decode cX10_joint 30 = .ok (.ireturn, 1) := by decide +kernel
theorem dX10_joint_31 : decode cX10_joint 31 = .ok (.aload_n 0, 1) := by decide +kernel
theorem dX10_joint_32 : decode cX10_joint 32 = .ok (.iload_n 1, 1) := by decide +kernel
theorem dX10_joint_33 : decode cX10_joint 33 = .ok (.iload_n 3, 1) := by decide +kernel
theorem dX10_joint_34 : decode cX10_joint 34 = .ok (.invokevirtual 230, 3) := by decide +kernel
theorem dX10_joint_37 : decode cX10_joint 37 = .ok (.iconst 4, 1) := by decide +kernel
theorem dX10_joint_38 : decode cX10_joint 38 = .ok (.iload_n 3, 1) := by decide +kernel
theorem dX10_joint_39 : decode cX10_joint 39 = .ok (.imul, 1) := by decide +kernel
theorem dX10_joint_40 : decode cX10_joint 40 = .ok (.istore 4, 2) := by decide +kernel
theorem dX10_joint_42 : decode cX10_joint 42 = .ok (.iload 4, 2) := by decide +kernel
theorem dX10_joint_44 : decode cX10_joint 44 = .ok (.iconst 4, 1) := by decide +kernel
theorem dX10_joint_45 : decode cX10_joint 45 = .ok (.iload_n 3, 1) := by decide +kernel
theorem dX10_joint_46 : decode cX10_joint 46 = .ok (.imul, 1) := by decide +kernel
theorem dX10_joint_47 : decode cX10_joint 47 = .ok (.iconst 4, 1) := by decide +kernel
theorem dX10_joint_48 : decode cX10_joint 48 = .ok (.iadd, 1) := by decide +kernel
theorem dX10_joint_49 : decode cX10_joint 49 = .ok (.if_icmp .ge 16, 3) := by decide +kernel
theorem dX10_joint_52 : decode cX10_joint 52 = .ok (.aload_n 0, 1) := by decide +kernel
theorem dX10_joint_53 : decode cX10_joint 53 = .ok (.iload_n 2, 1) := by decide +kernel
theorem dX10_joint_54 : decode cX10_joint 54 = .ok (.iload 4, 2) := by decide +kernel
theorem dX10_joint_56 : decode cX10_joint 56 = .ok (.invokevirtual 215, 3) := by decide +kernel
theorem dX10_joint_59 : decode cX10_joint 59 = .ok (.iinc 4 1, 3) := by decide +kernel
theorem dX10_joint_62 : decode cX10_joint 62 = .ok (.goto (-20), 3) := by decide +kernel
theorem dX10_joint_65 : decode cX10_joint 65 = .ok (.aload_n 0, 1) := by decide +kernel
theorem dX10_joint_66 : decode cX10_joint 66 = .ok (.iload_n 2, 1) := by decide +kernel
theorem dX10_joint_67 : decode cX10_joint 67 = .ok (.invokevirtual 218, 3) := by decide +kernel
theorem dX10_joint_70 : decode cX10_joint 70 = .ok (.aload_n 0, 1) := by decide +kernel
theorem dX10_joint_71 : decode cX10_joint 71 = .ok (.aload_n 0, 1) := by decide +kernel
theorem dX10_joint_72 : decode cX10_joint 72 = .ok (.iload_n 1, 1) := by decide +kernel
theorem dX10_joint_73 : decode cX10_joint 73 = .ok (.invokevirtual 237, 3) := by decide +kernel
theorem dX10_joint_76 : decode cX10_joint 76 = .ok (.aload_n 0, 1) := by decide +kernel
theorem dX10_joint_77 : decode cX10_joint 77 = .ok (.getfield 32, 3) := by decide +kernel
theorem dX10_joint_80 : decode cX10_joint 80 = .ok (.iconst 2, 1) := by decide +kernel
theorem dX10_joint_81 : decode cX10_joint 81 = .ok (.iaload, 1) := by decide +kernel
theorem dX10_joint_82 : decode cX10_joint 82 = .ok (.invokevirtual 249, 3) := by decide +kernel
theorem dX10_joint_85 : decode cX10_joint 85 = .ok (.ireturn, 1) := by decide +kernel
theorem dX10_limitFor_0 : decode cX10_limitFor 0 = .ok (.aload_n 0, 1) := by decide +kernel
theorem dX10_limitFor_1 : decode cX10_limitFor 1 = .ok (.iconst 0, 1) := by decide +kernel
theorem dX10_limitFor_2 : decode cX10_limitFor 2 = .ok (.putfield 49, 3) := by decide +kernel
theorem dX10_limitFor_5 : decode cX10_limitFor 5 = .ok (.aload_n 0, 1) := by decide +kernel
theorem dX10_limitFor_6 : decode cX10_limitFor 6 = .ok (.iload_n 1, 1) := by decide +kernel
theorem dX10_limitFor_7 : decode cX10_limitFor 7 = .ok (.invokevirtual 296, 3) := by decide +kernel
theorem dX10_limitFor_10 : decode cX10_limitFor 10 = .ok (.ifCond .eq 13, 3) := by decide +kernel
theorem dX10_limitFor_13 : decode cX10_limitFor 13 = .ok (.iload_n 2, 1) := by decide +kernel
theorem dX10_limitFor_14 : decode cX10_limitFor 14 = .ok (.iconst 0, 1) := by decide +kernel
theorem dX10_limitFor_15 : decode cX10_limitFor 15 = .ok (.bipush 15, 2) := by decide +kernel
theorem dX10_limitFor_17 : decode cX10_limitFor 17 = .ok (.invokestatic 124, 3) := by decide +kernel
theorem dX10_limitFor_20 : decode cX10_limitFor 20 = .ok (.ifCond .ne 5, 3) := by decide +kernel
theorem dX10_limitFor_23 : decode cX10_limitFor 23 = .ok (.iconst (-1), 1) := by decide +kernel
theorem dX10_limitFor_24 : decode cX10_limitFor 24 = .ok (.ireturn, 1) := by decide +kernel
theorem dX10_limitFor_25 : decode cX10_limitFor 25 = .ok (.iload_n 2, 1) := by decide +kernel
theorem dX10_limitFor_26 : decode cX10_limitFor 26 = .ok (.aload_n 0, 1) := by decide +kernel
theorem dX10_limitFor_27 : decode cX10_limitFor 27 = .ok (.invokevirtual 233, 3) := by decide +kernel
theorem dX10_limitFor_30 : decode cX10_limitFor 30 = .ok (.if_icmp .le 6, 3) := by decide +kernel
theorem dX10_limitFor_33 : decode cX10_limitFor 33 = .ok (.bipush (-2), 2) := by decide +kernel
theorem dX10_limitFor_35 : decode cX10_limitFor 35 = .ok (.ireturn, 1) := by decide +kernel
theorem dX10_limitFor_36 : decode cX10_limitFor 36 = .ok (.aload_n 0, 1) := by decide +kernel
theorem dX10_limitFor_37 : decode cX10_limitFor 37 = .ok (.aload_n 0, 1) := by decide +kernel
theorem dX10_limitFor_38 : decode cX10_limitFor 38 = .ok (.iload_n 1, 1) := by decide +kernel
theorem dX10_limitFor_39 : decode cX10_limitFor 39 = .ok (.iload_n 2, 1) := by decide +kernel
theorem dX10_limitFor_40 : decode cX10_limitFor 40 = .ok (.invokevirtual 291, 3) := by decide +kernel
theorem dX10_limitFor_43 : decode cX10_limitFor 43 = .ok (.iconst (-1), 1) := by decide +kernel
theorem dX10_limitFor_44 : decode cX10_limitFor 44 = .ok (.invokevirtual 249, 3) := by decide +kernel
theorem dX10_limitFor_47 : decode cX10_limitFor 47 = .ok (.i2l, 1) := by decide +kernel
theorem dX10_limitFor_48 : decode cX10_limitFor 48 = .ok (.lstore_n 3, 1) := by decide +kernel
theorem dX10_limitFor_49 : decode cX10_limitFor 49 = .ok (.aload_n 0, 1) := by decide +kernel
theorem dX10_limitFor_50 : decode cX10_limitFor 50 = .ok (.getfield 39, 3) := by decide +kernel
theorem dX10_limitFor_53 : decode cX10_limitFor 53 = .ok (.iconst 2, 1) := by decide +kernel
theorem dX10_limitFor_54 : decode cX10_limitFor 54 = .ok (.laload, 1) := by decide +kernel
theorem dX10_limitFor_55 : decode cX10_limitFor 55 = .ok (.aload_n 0, 1) := by decide +kernel
theorem dX10_limitFor_56 : decode cX10_limitFor 56 = .ok (.getfield 39, 3) := by decide +kernel
theorem dX10_limitFor_59 : decode cX10_limitFor 59 = .ok (.iconst 3, 1) := by decide +kernel
theorem dX10_limitFor_60 : decode cX10_limitFor 60 = .ok (.laload, 1) := by decide +kernel
theorem dX10_limitFor_61 : decode cX10_limitFor 61 = .ok (.ladd, 1) := by decide +kernel
theorem dX10_limitFor_62 : decode cX10_limitFor 62 = .ok (.aload_n 0, 1) := by decide +kernel
theorem dX10_limitFor_63 : decode cX10_limitFor 63 = .ok (.getfield 39, 3) := by decide +kernel
theorem dX10_limitFor_66 : decode cX10_limitFor 66 = .ok (.iconst 4, 1) := by decide +kernel
theorem dX10_limitFor_67 : decode cX10_limitFor 67 = .ok (.laload, 1) := by decide +kernel
theorem dX10_limitFor_68 : decode cX10_limitFor 68 = .ok (.ladd, 1) := by decide +kernel
theorem dX10_limitFor_69 : decode cX10_limitFor 69 = .ok (.lstore 5, 2) := by decide +kernel
theorem dX10_limitFor_71 : decode cX10_limitFor 71 = .ok (.ldc2_w 199, 3) := by decide +kernel
theorem dX10_limitFor_74 : decode cX10_limitFor 74 = .ok (.lload 5, 2) := by decide +kernel
theorem dX10_limitFor_76 : decode cX10_limitFor 76 = .ok (.lload_n 3, 1) := by decide +kernel
theorem dX10_limitFor_77 : decode cX10_limitFor 77 = .ok (.lsub, 1) := by decide +kernel
theorem dX10_limitFor_78 : decode cX10_limitFor 78 = .ok (.lmul, 1) := by decide +kernel
theorem dX10_limitFor_79 : decode cX10_limitFor 79 = .ok (.lload 5, 2) := by decide +kernel
theorem dX10_limitFor_81 : decode cX10_limitFor 81 = .ok (.lcmp, 1) := by decide +kernel
theorem dX10_limitFor_82 : decode cX10_limitFor 82 = .ok (.ifCond .gt 11, 3) := by decide +kernel
theorem dX10_limitFor_85 : decode cX10_limitFor 85 = .ok (.lload 5, 2) := by decide +kernel
theorem dX10_limitFor_87 : decode cX10_limitFor 87 = .ok (.lload_n 3, 1) := by decide +kernel
theorem dX10_limitFor_88 : decode cX10_limitFor 88 = .ok (.lsub, 1) := by decide +kernel
theorem dX10_limitFor_89 : decode cX10_limitFor 89 = .ok (.l2i, 1) := by decide +kernel
theorem dX10_limitFor_90 : decode cX10_limitFor 90 = .ok (.goto 5, 3) := by decide +kernel
theorem dX10_limitFor_93 : decode cX10_limitFor 93 = .ok (.bipush (-2), 2) := by decide +kernel
theorem dX10_limitFor_95 : decode cX10_limitFor 95 = .ok (.ireturn, 1) := by decide +kernel
theorem dX10_byBasis_0 : decode cX10_byBasis 0 = .ok (.aload_n 0, 1) := by decide +kernel
theorem dX10_byBasis_1 : decode cX10_byBasis 1 = .ok (.iconst 0, 1) := by decide +kernel
theorem dX10_byBasis_2 : decode cX10_byBasis 2 = .ok (.putfield 49, 3) := by decide +kernel
theorem dX10_byBasis_5 : decode cX10_byBasis 5 = .ok (.aload_n 0, 1) := by decide +kernel
theorem dX10_byBasis_6 : decode cX10_byBasis 6 = .ok (.iload_n 1, 1) := by decide +kernel
theorem dX10_byBasis_7 : decode cX10_byBasis 7 = .ok (.invokevirtual 296, 3) := by decide +kernel
theorem dX10_byBasis_10 : decode cX10_byBasis 10 = .ok (.ifCond .eq 27, 3) := by decide +kernel
theorem dX10_byBasis_13 : decode cX10_byBasis 13 = .ok (.iload_n 2, 1) := by decide +kernel
theorem dX10_byBasis_14 : decode cX10_byBasis 14 = .ok (.iconst 0, 1) := by decide +kernel
theorem dX10_byBasis_15 : decode cX10_byBasis 15 = .ok (.aload_n 0, 1) := by decide +kernel
theorem dX10_byBasis_16 : decode cX10_byBasis 16 = .ok (.iconst 0, 1) := by decide +kernel
theorem dX10_byBasis_17 : decode cX10_byBasis 17 = .ok (.invokevirtual 174, 3) := by decide +kernel
theorem dX10_byBasis_20 : decode cX10_byBasis 20 = .ok (.iconst 1, 1) := by decide +kernel
theorem dX10_byBasis_21 : decode cX10_byBasis 21 = .ok (.isub, 1) := by decide +kernel
theorem dX10_byBasis_22 : decode cX10_byBasis 22 = .ok (.invokestatic 124, 3) := by decide +kernel
theorem dX10_byBasis_25 : decode cX10_byBasis 25 = .ok (.ifCond .eq 12, 3) := by decide +kernel
theorem dX10_byBasis_28 : decode cX10_byBasis 28 = .ok (.iload_n 3, 1) := by decide +kernel
theorem dX10_byBasis_29 : decode cX10_byBasis 29 = .ok (.iconst 0, 1) := by decide +kernel
theorem dX10_byBasis_30 : decode cX10_byBasis 30 = .ok (.iconst 1, 1) := by decide +kernel
theorem dX10_byBasis_31 : decode cX10_byBasis 31 = .ok (.invokestatic 124, 3) := by decide +kernel
theorem dX10_byBasis_34 : decode cX10_byBasis 34 = .ok (.ifCond .ne 7, 3) := by decide +kernel
theorem dX10_byBasis_37 : decode cX10_byBasis 37 = .ok (.ldc_w 326, 3) := by decide +kernel
theorem dX10_byBasis_40 : decode cX10_byBasis 40 = .ok (.ireturn, 1) := by decide +kernel
theorem dX10_byBasis_41 : decode cX10_byBasis 41 = .ok (.aload_n 0, 1) := by decide +kernel
theorem dX10_byBasis_42 : decode cX10_byBasis 42 = .ok (.iload_n 1, 1) := by decide +kernel
theorem dX10_byBasis_43 : decode cX10_byBasis 43 = .ok (.iload_n 2, 1) := by decide +kernel
theorem dX10_byBasis_44 : decode cX10_byBasis 44 = .ok (.iload_n 3, 1) := by decide +kernel
theorem dX10_byBasis_45 : decode cX10_byBasis 45 = .ok (.invokevirtual 246, 3) := by decide +kernel
theorem dX10_byBasis_48 : decode cX10_byBasis 48 = .ok (.istore 4, 2) := by decide +kernel
theorem dX10_byBasis_50 : decode cX10_byBasis 50 = .ok (.aload_n 0, 1) := by decide +kernel
theorem dX10_byBasis_51 : decode cX10_byBasis 51 = .ok (.iload 4, 2) := by decide +kernel
theorem dX10_byBasis_53 : decode cX10_byBasis 53 = .ok (.aload_n 0, 1) := by decide +kernel
theorem dX10_byBasis_54 : decode cX10_byBasis 54 = .ok (.getfield 32, 3) := by decide +kernel
theorem dX10_byBasis_57 : decode cX10_byBasis 57 = .ok (.iconst 2, 1) := by decide +kernel
theorem dX10_byBasis_58 : decode cX10_byBasis 58 = .ok (.iaload, 1) := by decide +kernel
theorem dX10_byBasis_59 : decode cX10_byBasis 59 = .ok (.iconst 4, 1) := by decide +kernel
theorem dX10_byBasis_60 : decode cX10_byBasis 60 = .ok (.idiv, 1) := by decide +kernel
theorem dX10_byBasis_61 : decode cX10_byBasis 61 = .ok (.invokevirtual 249, 3) := by decide +kernel
theorem dX10_byBasis_64 : decode cX10_byBasis 64 = .ok (.ireturn, 1) := by decide +kernel
theorem dX10_leader_0 : decode cX10_leader 0 = .ok (.aload_n 0, 1) := by decide +kernel
theorem dX10_leader_1 : decode cX10_leader 1 = .ok (.iconst 0, 1) := by decide +kernel
theorem dX10_leader_2 : decode cX10_leader 2 = .ok (.putfield 49, 3) := by decide +kernel
theorem dX10_leader_5 : decode cX10_leader 5 = .ok (.iload_n 1, 1) := by decide +kernel
theorem dX10_leader_6 : decode cX10_leader 6 = .ok (.iconst 0, 1) := by decide +kernel
theorem dX10_leader_7 : decode cX10_leader 7 = .ok (.bipush 15, 2) := by decide +kernel
theorem dX10_leader_9 : decode cX10_leader 9 = .ok (.invokestatic 124, 3) := by decide +kernel
theorem dX10_leader_12 : decode cX10_leader 12 = .ok (.ifCond .ne 5, 3) := by decide +kernel
theorem dX10_leader_15 : decode cX10_leader 15 = .ok (.iconst (-1), 1) := by decide +kernel
theorem dX10_leader_16 : decode cX10_leader 16 = .ok (.ireturn, 1) := by decide +kernel
theorem dX10_leader_17 : decode cX10_leader 17 = .ok (.iload_n 1, 1) := by decide +kernel
theorem dX10_leader_18 : decode cX10_leader 18 = .ok (.aload_n 0, 1) := by decide +kernel
theorem dX10_leader_19 : decode cX10_leader 19 = .ok (.invokevirtual 233, 3) := by decide +kernel
theorem dX10_leader_22 : decode cX10_leader 22 = .ok (.if_icmp .le 6, 3) := by decide +kernel
theorem dX10_leader_25 : decode cX10_leader 25 = .ok (.bipush (-2), 2) := by decide +kernel
theorem dX10_leader_27 : decode cX10_leader 27 = .ok (.ireturn, 1) := by decide +kernel
theorem dX10_leader_28 : decode cX10_leader 28 = .ok (.bipush (-2), 2) := by decide +kernel
theorem dX10_leader_30 : decode cX10_leader 30 = .ok (.istore_n 2, 1) := by decide +kernel
theorem dX10_leader_31 : decode cX10_leader 31 = .ok (.iconst 0, 1) := by decide +kernel
theorem dX10_leader_32 : decode cX10_leader 32 = .ok (.istore_n 3, 1) := by decide +kernel
theorem dX10_leader_33 : decode cX10_leader 33 = .ok (.iconst 0, 1) := by decide +kernel
theorem dX10_leader_34 : decode cX10_leader 34 = .ok (.istore 4, 2) := by decide +kernel
theorem dX10_leader_36 : decode cX10_leader 36 = .ok (.iload 4, 2) := by decide +kernel
theorem dX10_leader_38 : decode cX10_leader 38 = .ok (.aload_n 0, 1) := by decide +kernel
theorem dX10_leader_39 : decode cX10_leader 39 = .ok (.getfield 94, 3) := by decide +kernel
theorem dX10_leader_42 : decode cX10_leader 42 = .ok (.if_icmp .ge 37, 3) := by decide +kernel
theorem dX10_leader_45 : decode cX10_leader 45 = .ok (.aload_n 0, 1) := by decide +kernel
theorem dX10_leader_46 : decode cX10_leader 46 = .ok (.iload 4, 2) := by decide +kernel
theorem dX10_leader_48 : decode cX10_leader 48 = .ok (.iload_n 1, 1) := by decide +kernel
theorem dX10_leader_49 : decode cX10_leader 49 = .ok (.invokevirtual 327, 3) := by decide +kernel
theorem dX10_leader_52 : decode cX10_leader 52 = .ok (.istore 5, 2) := by decide +kernel
theorem dX10_leader_54 : decode cX10_leader 54 = .ok (.iload_n 2, 1) := by decide +kernel
theorem dX10_leader_55 : decode cX10_leader 55 = .ok (.ifCond .lt 12, 3) := by decide +kernel
theorem dX10_leader_58 : decode cX10_leader 58 = .ok (.iload 5, 2) := by decide +kernel
theorem dX10_leader_60 : decode cX10_leader 60 = .ok (.iload_n 3, 1) := by decide +kernel
theorem dX10_leader_61 : decode cX10_leader 61 = .ok (.if_icmp .gt 6, 3) := by decide +kernel
theorem dX10_leader_64 : decode cX10_leader 64 = .ok (.goto 9, 3) := by decide +kernel
theorem dX10_leader_67 : decode cX10_leader 67 = .ok (.iload 4, 2) := by decide +kernel
theorem dX10_leader_69 : decode cX10_leader 69 = .ok (.istore_n 2, 1) := by decide +kernel
theorem dX10_leader_70 : decode cX10_leader 70 = .ok (.iload 5, 2) := by decide +kernel
theorem dX10_leader_72 : decode cX10_leader 72 = .ok (.istore_n 3, 1) := by decide +kernel
theorem dX10_leader_73 : decode cX10_leader 73 = .ok (.iinc 4 1, 3) := by decide +kernel
theorem dX10_leader_76 : decode cX10_leader 76 = .ok (.goto (-40), 3) := by decide +kernel
theorem dX10_leader_79 : decode cX10_leader 79 = .ok (.iload_n 2, 1) := by decide +kernel
theorem dX10_leader_80 : decode cX10_leader 80 = .ok (.ireturn, 1) := by decide +kernel
theorem dX10_rise_0 : decode cX10_rise 0 = .ok (.aload_n 0, 1) := by decide +kernel
theorem dX10_rise_1 : decode cX10_rise 1 = .ok (.iconst 0, 1) := by decide +kernel
theorem dX10_rise_2 : decode cX10_rise 2 = .ok (.putfield 49, 3) := by decide +kernel
theorem dX10_rise_5 : decode cX10_rise 5 = .ok (.aload_n 0, 1) := by decide +kernel
theorem dX10_rise_6 : decode cX10_rise 6 = .ok (.iload_n 1, 1) := by decide +kernel
theorem dX10_rise_7 : decode cX10_rise 7 = .ok (.invokevirtual 296, 3) := by decide +kernel
theorem dX10_rise_10 : decode cX10_rise 10 = .ok (.ifCond .ne 5, 3) := by decide +kernel
theorem dX10_rise_13 : decode cX10_rise 13 = .ok (.iconst (-1), 1) := by decide +kernel
theorem dX10_rise_14 : decode cX10_rise 14 = .ok (.ireturn, 1) := by decide +kernel
theorem dX10_rise_15 : decode cX10_rise 15 = .ok (.iconst 0, 1) := by decide +kernel
theorem dX10_rise_16 : decode cX10_rise 16 = .ok (.istore_n 2, 1) := by decide +kernel
theorem dX10_rise_17 : decode cX10_rise 17 = .ok (.iconst 0, 1) := by decide +kernel
theorem dX10_rise_18 : decode cX10_rise 18 = .ok (.istore_n 3, 1) := by decide +kernel
theorem dX10_rise_19 : decode cX10_rise 19 = .ok (.iconst 0, 1) := by decide +kernel
theorem dX10_rise_20 : decode cX10_rise 20 = .ok (.istore 4, 2) := by decide +kernel
theorem dX10_rise_22 : decode cX10_rise 22 = .ok (.iload 4, 2) := by decide +kernel
theorem dX10_rise_24 : decode cX10_rise 24 = .ok (.aload_n 0, 1) := by decide +kernel
theorem dX10_rise_25 : decode cX10_rise 25 = .ok (.iconst 0, 1) := by decide +kernel
theorem dX10_rise_26 : decode cX10_rise 26 = .ok (.invokevirtual 174, 3) := by decide +kernel
theorem dX10_rise_29 : decode cX10_rise 29 = .ok (.if_icmp .ge 67, 3) := by decide +kernel
theorem dX10_rise_32 : decode cX10_rise 32 = .ok (.iload_n 3, 1) := by decide +kernel
theorem dX10_rise_33 : decode cX10_rise 33 = .ok (.ifCond .le 44, 3) := by decide +kernel
theorem dX10_rise_36 : decode cX10_rise 36 = .ok (.aload_n 0, 1) := by decide +kernel
theorem dX10_rise_37 : decode cX10_rise 37 = .ok (.sipush 1545, 3) := by decide +kernel
theorem dX10_rise_40 : decode cX10_rise 40 = .ok (.bipush 64, 2) := by decide +kernel
theorem dX10_rise_42 : decode cX10_rise 42 = .ok (.iload_n 1, 1) := by decide +kernel
theorem dX10_rise_43 : decode cX10_rise 43 = .ok (.imul, 1) := by decide +kernel
theorem dX10_rise_44 : decode cX10_rise 44 = .ok (.iadd, 1) := by decide +kernel
theorem dX10_rise_45 : decode cX10_rise 45 = .ok (.iload 4, 2) := by decide +kernel
theorem dX10_rise_47 : decode cX10_rise 47 = .ok (.iadd, 1) := by decide +kernel
theorem dX10_rise_48 : decode cX10_rise 48 = .ok (.invokevirtual 174, 3) := by decide +kernel
theorem dX10_rise_51 : decode cX10_rise 51 = .ok (.aload_n 0, 1) := by decide +kernel
theorem dX10_rise_52 : decode cX10_rise 52 = .ok (.sipush 1545, 3) := by decide +kernel
theorem dX10_rise_55 : decode cX10_rise 55 = .ok (.bipush 64, 2) := by decide +kernel
theorem dX10_rise_57 : decode cX10_rise 57 = .ok (.iload_n 1, 1) := by decide +kernel
theorem dX10_rise_58 : decode cX10_rise 58 = .ok (.imul, 1) := by decide +kernel
theorem dX10_rise_59 : decode cX10_rise 59 = .ok (.iadd, 1) := by decide +kernel
theorem dX10_rise_60 : decode cX10_rise 60 = .ok (.iload 4, 2) := by decide +kernel
theorem dX10_rise_62 : decode cX10_rise 62 = .ok (.iadd, 1) := by decide +kernel
theorem dX10_rise_63 : decode cX10_rise 63 = .ok (.iconst 1, 1) := by decide +kernel
theorem dX10_rise_64 : decode cX10_rise 64 = .ok (.isub, 1) := by decide +kernel
theorem dX10_rise_65 : decode cX10_rise 65 = .ok (.invokevirtual 174, 3) := by decide +kernel
theorem dX10_rise_68 : decode cX10_rise 68 = .ok (.if_icmp .le 9, 3) := by decide +kernel
theorem dX10_rise_71 : decode cX10_rise 71 = .ok (.iload_n 3, 1) := by decide +kernel
theorem dX10_rise_72 : decode cX10_rise 72 = .ok (.iconst 1, 1) := by decide +kernel
theorem dX10_rise_73 : decode cX10_rise 73 = .ok (.iadd, 1) := by decide +kernel
theorem dX10_rise_74 : decode cX10_rise 74 = .ok (.goto 4, 3) := by decide +kernel
theorem dX10_rise_77 : decode cX10_rise 77 = .ok (.iconst 1, 1) := by decide +kernel
theorem dX10_rise_78 : decode cX10_rise 78 = .ok (.istore_n 3, 1) := by decide +kernel
theorem dX10_rise_79 : decode cX10_rise 79 = .ok (.iload_n 3, 1) := by decide +kernel
theorem dX10_rise_80 : decode cX10_rise 80 = .ok (.iload_n 2, 1) := by decide +kernel
theorem dX10_rise_81 : decode cX10_rise 81 = .ok (.if_icmp .le 7, 3) := by decide +kernel
theorem dX10_rise_84 : decode cX10_rise 84 = .ok (.iload_n 3, 1) := by decide +kernel
theorem dX10_rise_85 : decode cX10_rise 85 = .ok (.goto 4, 3) := by decide +kernel
theorem dX10_rise_88 : decode cX10_rise 88 = .ok (.iload_n 2, 1) := by decide +kernel
theorem dX10_rise_89 : decode cX10_rise 89 = .ok (.istore_n 2, 1) := by decide +kernel
theorem dX10_rise_90 : decode cX10_rise 90 = .ok (.iinc 4 1, 3) := by decide +kernel
theorem dX10_rise_93 : decode cX10_rise 93 = .ok (.goto (-71), 3) := by decide +kernel
theorem dX10_rise_96 : decode cX10_rise 96 = .ok (.iload_n 2, 1) := by decide +kernel
theorem dX10_rise_97 : decode cX10_rise 97 = .ok (.ireturn, 1) := by decide +kernel
theorem dX10_need_0 : decode cX10_need 0 = .ok (.aload_n 0, 1) := by decide +kernel
theorem dX10_need_1 : decode cX10_need 1 = .ok (.iconst 0, 1) := by decide +kernel
theorem dX10_need_2 : decode cX10_need 2 = .ok (.putfield 49, 3) := by decide +kernel
theorem dX10_need_5 : decode cX10_need 5 = .ok (.aload_n 0, 1) := by decide +kernel
theorem dX10_need_6 : decode cX10_need 6 = .ok (.iload_n 1, 1) := by decide +kernel
theorem dX10_need_7 : decode cX10_need 7 = .ok (.invokevirtual 296, 3) := by decide +kernel
theorem dX10_need_10 : decode cX10_need 10 = .ok (.ifCond .eq 17, 3) := by decide +kernel
theorem dX10_need_13 : decode cX10_need 13 = .ok (.iload_n 2, 1) := by decide +kernel
theorem dX10_need_14 : decode cX10_need 14 = .ok (.iconst 0, 1) := by decide +kernel
theorem dX10_need_15 : decode cX10_need 15 = .ok (.aload_n 0, 1) := by decide +kernel
theorem dX10_need_16 : decode cX10_need 16 = .ok (.getfield 32, 3) := by decide +kernel
theorem dX10_need_19 : decode cX10_need 19 = .ok (.iconst 1, 1) := by decide +kernel
theorem dX10_need_20 : decode cX10_need 20 = .ok (.iaload, 1) := by decide +kernel
theorem dX10_need_21 : decode cX10_need 21 = .ok (.invokestatic 124, 3) := by decide +kernel
theorem dX10_need_24 : decode cX10_need 24 = .ok (.ifCond .ne 5, 3) := by decide +kernel
theorem dX10_need_27 : decode cX10_need 27 = .ok (.iconst (-1), 1) := by decide +kernel
theorem dX10_need_28 : decode cX10_need 28 = .ok (.ireturn, 1) := by decide +kernel
theorem dX10_need_29 : decode cX10_need 29 = .ok (.aload_n 0, 1) := by decide +kernel
theorem dX10_need_30 : decode cX10_need 30 = .ok (.iload_n 1, 1) := by decide +kernel
theorem dX10_need_31 : decode cX10_need 31 = .ok (.iconst 1, 1) := by decide +kernel
theorem dX10_need_32 : decode cX10_need 32 = .ok (.invokevirtual 115, 3) := by decide +kernel
theorem dX10_need_35 : decode cX10_need 35 = .ok (.ifCond .eq 6, 3) := by decide +kernel
theorem dX10_need_38 : decode cX10_need 38 = .ok (.bipush (-2), 2) := by decide +kernel
theorem dX10_need_40 : decode cX10_need 40 = .ok (.ireturn, 1) := by decide +kernel
theorem dX10_need_41 : decode cX10_need 41 = .ok (.aload_n 0, 1) := by decide +kernel
theorem dX10_need_42 : decode cX10_need 42 = .ok (.iload_n 1, 1) := by decide +kernel
theorem dX10_need_43 : decode cX10_need 43 = .ok (.aload_n 0, 1) := by decide +kernel
theorem dX10_need_44 : decode cX10_need 44 = .ok (.invokevirtual 233, 3) := by decide +kernel
theorem dX10_need_47 : decode cX10_need 47 = .ok (.invokevirtual 230, 3) := by decide +kernel
theorem dX10_need_50 : decode cX10_need 50 = .ok (.aload_n 0, 1) := by decide +kernel
theorem dX10_need_51 : decode cX10_need 51 = .ok (.getfield 39, 3) := by decide +kernel
theorem dX10_need_54 : decode cX10_need 54 = .ok (.iconst 0, 1) := by decide +kernel
theorem dX10_need_55 : decode cX10_need 55 = .ok (.laload, 1) := by decide +kernel
theorem dX10_need_56 : decode cX10_need 56 = .ok (.lstore_n 3, 1) := by decide +kernel
theorem dX10_need_57 : decode cX10_need 57 = .ok (.aload_n 0, 1) := by decide +kernel
theorem dX10_need_58 : decode cX10_need 58 = .ok (.iload_n 1, 1) := by decide +kernel
theorem dX10_need_59 : decode cX10_need 59 = .ok (.invokevirtual 237, 3) := by decide +kernel
theorem dX10_need_62 : decode cX10_need 62 = .ok (.iload_n 2, 1) := by decide +kernel
theorem dX10_need_63 : decode cX10_need 63 = .ok (.if_icmp .lt 5, 3) := by decide +kernel
theorem dX10_need_66 : decode cX10_need 66 = .ok (.iconst 0, 1) := by decide +kernel
theorem dX10_need_67 : decode cX10_need 67 = .ok (.ireturn, 1) := by decide +kernel
theorem dX10_need_68 : decode cX10_need 68 = .ok (.lconst 0, 1) := by decide +kernel
theorem dX10_need_69 : decode cX10_need 69 = .ok (.lstore 5, 2) := by decide +kernel
theorem dX10_need_71 : decode cX10_need 71 = .ok (.ldc2_w 330, 3) := by decide +kernel
theorem dX10_need_74 : decode cX10_need 74 = .ok (.lstore 7, 2) := by decide +kernel
theorem dX10_need_76 : decode cX10_need 76 = .ok (.lload 7, 2) := by decide +kernel
theorem dX10_need_78 : decode cX10_need 78 = .ok (.lload 5, 2) := by decide +kernel
theorem dX10_need_80 : decode cX10_need 80 = .ok (.lsub, 1) := by decide +kernel
theorem dX10_need_81 : decode cX10_need 81 = .ok (.lconst 1, 1) := by decide +kernel
theorem dX10_need_82 : decode cX10_need 82 = .ok (.lcmp, 1) := by decide +kernel
theorem dX10_need_83 : decode cX10_need 83 = .ok (.ifCond .le 47, 3) := by decide +kernel
theorem dX10_need_86 : decode cX10_need 86 = .ok (.lload 5, 2) := by decide +kernel
theorem dX10_need_88 : decode cX10_need 88 = .ok (.lload 7, 2) := by decide +kernel
theorem dX10_need_90 : decode cX10_need 90 = .ok (.ladd, 1) := by decide +kernel
theorem dX10_need_91 : decode cX10_need 91 = .ok (.ldc2_w 199, 3) := by decide +kernel
theorem dX10_need_94 : decode cX10_need 94 = .ok (.ldiv, 1) := by decide +kernel
theorem dX10_need_95 : decode cX10_need 95 = .ok (.lstore 9, 2) := by decide +kernel
theorem dX10_need_97 : decode cX10_need 97 = .ok (.aload_n 0, 1) := by decide +kernel
theorem dX10_need_98 : decode cX10_need 98 = .ok (.getfield 39, 3) := by decide +kernel
theorem dX10_need_101 : decode cX10_need 101 = .ok (.iconst 0, 1) := by decide +kernel
theorem dX10_need_102 : decode cX10_need 102 = .ok (.lload_n 3, 1) := by decide +kernel
theorem dX10_need_103 : decode cX10_need 103 = .ok (.lload 9, 2) := by decide +kernel
theorem dX10_need_105 : decode cX10_need 105 = .ok (.ladd, 1) := by decide +kernel
theorem dX10_need_106 : decode cX10_need 106 = .ok (.lastore, 1) := by decide +kernel
theorem dX10_need_107 : decode cX10_need 107 = .ok (.aload_n 0, 1) := by decide +kernel
theorem dX10_need_108 : decode cX10_need 108 = .ok (.iload_n 1, 1) := by decide +kernel
theorem dX10_need_109 : decode cX10_need 109 = .ok (.invokevirtual 237, 3) := by decide +kernel
theorem dX10_need_112 : decode cX10_need 112 = .ok (.iload_n 2, 1) := by decide +kernel
theorem dX10_need_113 : decode cX10_need 113 = .ok (.if_icmp .lt 10, 3) := by decide +kernel
theorem dX10_need_116 : decode cX10_need 116 = .ok (.lload 9, 2) := by decide +kernel
theorem dX10_need_118 : decode cX10_need 118 = .ok (.lstore 7, 2) := by decide +kernel
theorem dX10_need_120 : decode cX10_need 120 = .ok (.goto 7, 3) := by decide +kernel
theorem dX10_need_123 : decode cX10_need 123 = .ok (.lload 9, 2) := by decide +kernel
theorem dX10_need_125 : decode cX10_need 125 = .ok (.lstore 5, 2) := by decide +kernel
theorem dX10_need_127 : decode cX10_need 127 = .ok (.goto (-51), 3) := by decide +kernel
theorem dX10_need_130 : decode cX10_need 130 = .ok (.lload 7, 2) := by decide +kernel
theorem dX10_need_132 : decode cX10_need 132 = .ok (.ldc2_w 330, 3) := by decide +kernel
theorem dX10_need_135 : decode cX10_need 135 = .ok (.lcmp, 1) := by decide +kernel
theorem dX10_need_136 : decode cX10_need 136 = .ok (.ifCond .ne 8, 3) := by decide +kernel
theorem dX10_need_139 : decode cX10_need 139 = .ok (.bipush (-2), 2) := by decide +kernel
theorem dX10_need_141 : decode cX10_need 141 = .ok (.goto 6, 3) := by decide +kernel
theorem dX10_need_144 : decode cX10_need 144 = .ok (.lload 7, 2) := by decide +kernel
theorem dX10_need_146 : decode cX10_need 146 = .ok (.l2i, 1) := by decide +kernel
theorem dX10_need_147 : decode cX10_need 147 = .ok (.ireturn, 1) := by decide +kernel
theorem dX10_room_0 : decode cX10_room 0 = .ok (.aload_n 0, 1) := by decide +kernel
theorem dX10_room_1 : decode cX10_room 1 = .ok (.iconst 0, 1) := by decide +kernel
theorem dX10_room_2 : decode cX10_room 2 = .ok (.putfield 49, 3) := by decide +kernel
theorem dX10_room_5 : decode cX10_room 5 = .ok (.aload_n 0, 1) := by decide +kernel
theorem dX10_room_6 : decode cX10_room 6 = .ok (.iload_n 1, 1) := by decide +kernel
theorem dX10_room_7 : decode cX10_room 7 = .ok (.invokevirtual 296, 3) := by decide +kernel
theorem dX10_room_10 : decode cX10_room 10 = .ok (.ifCond .eq 12, 3) := by decide +kernel
theorem dX10_room_13 : decode cX10_room 13 = .ok (.iload_n 2, 1) := by decide +kernel
theorem dX10_room_14 : decode cX10_room 14 = .ok (.iconst 0, 1) := by decide +kernel
theorem dX10_room_15 : decode cX10_room 15 = .ok (.iconst 2, 1) := by decide +kernel
theorem dX10_room_16 : decode cX10_room 16 = .ok (.invokestatic 124, 3) := by decide +kernel
theorem dX10_room_19 : decode cX10_room 19 = .ok (.ifCond .ne 5, 3) := by decide +kernel
theorem dX10_room_22 : decode cX10_room 22 = .ok (.iconst (-1), 1) := by decide +kernel
theorem dX10_room_23 : decode cX10_room 23 = .ok (.ireturn, 1) := by decide +kernel
theorem dX10_room_24 : decode cX10_room 24 = .ok (.aload_n 0, 1) := by decide +kernel
theorem dX10_room_25 : decode cX10_room 25 = .ok (.iload_n 1, 1) := by decide +kernel
theorem dX10_room_26 : decode cX10_room 26 = .ok (.aload_n 0, 1) := by decide +kernel
theorem dX10_room_27 : decode cX10_room 27 = .ok (.invokevirtual 233, 3) := by decide +kernel
theorem dX10_room_30 : decode cX10_room 30 = .ok (.invokevirtual 327, 3) := by decide +kernel
theorem dX10_room_33 : decode cX10_room 33 = .ok (.pop, 1) := by decide +kernel
theorem dX10_room_34 : decode cX10_room 34 = .ok (.aload_n 0, 1) := by decide +kernel
theorem dX10_room_35 : decode cX10_room 35 = .ok (.getfield 225, 3) := by decide +kernel
theorem dX10_room_38 : decode cX10_room 38 = .ok (.ifCond .ne 6, 3) := by decide +kernel
theorem dX10_room_41 : decode cX10_room 41 = .ok (.bipush (-2), 2) := by decide +kernel
theorem dX10_room_43 : decode cX10_room 43 = .ok (.ireturn, 1) := by decide +kernel
theorem dX10_room_44 : decode cX10_room 44 = .ok (.iconst 1, 1) := by decide +kernel
theorem dX10_room_45 : decode cX10_room 45 = .ok (.istore_n 3, 1) := by decide +kernel
theorem dX10_room_46 : decode cX10_room 46 = .ok (.iload_n 3, 1) := by decide +kernel
theorem dX10_room_47 : decode cX10_room 47 = .ok (.sipush 10000, 3) := by decide +kernel
theorem dX10_room_50 : decode cX10_room 50 = .ok (.if_icmp .ge 48, 3) := by decide +kernel
theorem dX10_room_53 : decode cX10_room 53 = .ok (.aload_n 0, 1) := by decide +kernel
theorem dX10_room_54 : decode cX10_room 54 = .ok (.getfield 39, 3) := by decide +kernel
theorem dX10_room_57 : decode cX10_room 57 = .ok (.iconst 2, 1) := by decide +kernel
theorem dX10_room_58 : decode cX10_room 58 = .ok (.iload_n 2, 1) := by decide +kernel
theorem dX10_room_59 : decode cX10_room 59 = .ok (.iadd, 1) := by decide +kernel
theorem dX10_room_60 : decode cX10_room 60 = .ok (.dup2, 1) := by decide +kernel
theorem dX10_room_61 : decode cX10_room 61 = .ok (.laload, 1) := by decide +kernel
theorem dX10_room_62 : decode cX10_room 62 = .ok (.lconst 1, 1) := by decide +kernel
theorem dX10_room_63 : decode cX10_room 63 = .ok (.ladd, 1) := by decide +kernel
theorem dX10_room_64 : decode cX10_room 64 = .ok (.lastore, 1) := by decide +kernel
theorem dX10_room_65 : decode cX10_room 65 = .ok (.aload_n 0, 1) := by decide +kernel
theorem dX10_room_66 : decode cX10_room 66 = .ok (.aload_n 0, 1) := by decide +kernel
theorem dX10_room_67 : decode cX10_room 67 = .ok (.iload_n 1, 1) := by decide +kernel
theorem dX10_room_68 : decode cX10_room 68 = .ok (.invokevirtual 237, 3) := by decide +kernel
theorem dX10_room_71 : decode cX10_room 71 = .ok (.aload_n 0, 1) := by decide +kernel
theorem dX10_room_72 : decode cX10_room 72 = .ok (.getfield 32, 3) := by decide +kernel
theorem dX10_room_75 : decode cX10_room 75 = .ok (.iconst 2, 1) := by decide +kernel
theorem dX10_room_76 : decode cX10_room 76 = .ok (.iaload, 1) := by decide +kernel
theorem dX10_room_77 : decode cX10_room 77 = .ok (.invokevirtual 249, 3) := by decide +kernel
theorem dX10_room_80 : decode cX10_room 80 = .ok (.pop, 1) := by decide +kernel
theorem dX10_room_81 : decode cX10_room 81 = .ok (.aload_n 0, 1) := by decide +kernel
theorem dX10_room_82 : decode cX10_room 82 = .ok (.getfield 225, 3) := by decide +kernel
theorem dX10_room_85 : decode cX10_room 85 = .ok (.ifCond .ne 7, 3) := by decide +kernel
theorem dX10_room_88 : decode cX10_room 88 = .ok (.iload_n 3, 1) := by decide +kernel
theorem dX10_room_89 : decode cX10_room 89 = .ok (.iconst 1, 1) := by decide +kernel
theorem dX10_room_90 : decode cX10_room 90 = .ok (.isub, 1) := by decide +kernel
theorem dX10_room_91 : decode cX10_room 91 = .ok (.ireturn, 1) := by decide +kernel
theorem dX10_room_92 : decode cX10_room 92 = .ok (.iinc 3 1, 3) := by decide +kernel
theorem dX10_room_95 : decode cX10_room 95 = .ok (.goto (-49), 3) := by decide +kernel
theorem dX10_room_98 : decode cX10_room 98 = .ok (.sipush 9999, 3) := by decide +kernel
theorem dX10_room_101 : decode cX10_room 101 = .ok (.ireturn, 1) := by decide +kernel
theorem dX10_baseNow_0 : decode cX10_baseNow 0 = .ok (.aload_n 0, 1) := by decide +kernel
theorem dX10_baseNow_1 : decode cX10_baseNow 1 = .ok (.iload_n 1, 1) := by decide +kernel
theorem dX10_baseNow_2 : decode cX10_baseNow 2 = .ok (.invokevirtual 317, 3) := by decide +kernel
theorem dX10_baseNow_5 : decode cX10_baseNow 5 = .ok (.ifCond .eq 13, 3) := by decide +kernel
theorem dX10_baseNow_8 : decode cX10_baseNow 8 = .ok (.aload_n 0, 1) := by decide +kernel
theorem dX10_baseNow_9 : decode cX10_baseNow 9 = .ok (.iload_n 1, 1) := by decide +kernel
theorem dX10_baseNow_10 : decode cX10_baseNow 10 = .ok (.bipush 6, 2) := by decide +kernel
theorem dX10_baseNow_12 : decode cX10_baseNow 12 = .ok (.invokevirtual 256, 3) := by decide +kernel
theorem dX10_baseNow_15 : decode cX10_baseNow 15 = .ok (.goto 14, 3) := by decide +kernel
theorem dX10_baseNow_18 : decode cX10_baseNow 18 = .ok (.aload_n 0, 1) := by decide +kernel
theorem dX10_baseNow_19 : decode cX10_baseNow 19 = .ok (.iload_n 1, 1) := by decide +kernel
theorem dX10_baseNow_20 : decode cX10_baseNow 20 = .ok (.aload_n 0, 1) := by decide +kernel
theorem dX10_baseNow_21 : decode cX10_baseNow 21 = .ok (.iload_n 1, 1) := by decide +kernel
theorem dX10_baseNow_22 : decode cX10_baseNow 22 = .ok (.iconst 2, 1) := by decide +kernel
theorem dX10_baseNow_23 : decode cX10_baseNow 23 = .ok (.invokevirtual 256, 3) := by decide +kernel
theorem dX10_baseNow_26 : decode cX10_baseNow 26 = .ok (.invokevirtual 273, 3) := by decide +kernel
theorem dX10_baseNow_29 : decode cX10_baseNow 29 = .ok (.ireturn, 1) := by decide +kernel
theorem dX10_would_0 : decode cX10_would 0 = .ok (.aload_n 0, 1) := by decide +kernel
theorem dX10_would_1 : decode cX10_would 1 = .ok (.iconst 0, 1) := by decide +kernel
theorem dX10_would_2 : decode cX10_would 2 = .ok (.putfield 49, 3) := by decide +kernel
theorem dX10_would_5 : decode cX10_would 5 = .ok (.aload_n 0, 1) := by decide +kernel
theorem dX10_would_6 : decode cX10_would 6 = .ok (.iload_n 1, 1) := by decide +kernel
theorem dX10_would_7 : decode cX10_would 7 = .ok (.invokevirtual 302, 3) := by decide +kernel
theorem dX10_would_10 : decode cX10_would 10 = .ok (.ifCond .eq 20, 3) := by decide +kernel
theorem dX10_would_13 : decode cX10_would 13 = .ok (.iload_n 2, 1) := by decide +kernel
theorem dX10_would_14 : decode cX10_would 14 = .ok (.iconst 0, 1) := by decide +kernel
theorem dX10_would_15 : decode cX10_would 15 = .ok (.iconst 1, 1) := by decide +kernel
theorem dX10_would_16 : decode cX10_would 16 = .ok (.invokestatic 124, 3) := by decide +kernel
theorem dX10_would_19 : decode cX10_would 19 = .ok (.ifCond .eq 11, 3) := by decide +kernel
theorem dX10_would_22 : decode cX10_would 22 = .ok (.aload_n 0, 1) := by decide +kernel
theorem dX10_would_23 : decode cX10_would 23 = .ok (.iload_n 1, 1) := by decide +kernel
theorem dX10_would_24 : decode cX10_would 24 = .ok (.invokevirtual 305, 3) := by decide +kernel
theorem dX10_would_27 : decode cX10_would 27 = .ok (.ifCond .eq 7, 3) := by decide +kernel
theorem dX10_would_30 : decode cX10_would 30 = .ok (.ldc_w 326, 3) := by decide +kernel
theorem dX10_would_33 : decode cX10_would 33 = .ok (.ireturn, 1) := by decide +kernel
theorem dX10_would_34 : decode cX10_would 34 = .ok (.aload_n 0, 1) := by decide +kernel
theorem dX10_would_35 : decode cX10_would 35 = .ok (.iload_n 1, 1) := by decide +kernel
theorem dX10_would_36 : decode cX10_would 36 = .ok (.aload_n 0, 1) := by decide +kernel
theorem dX10_would_37 : decode cX10_would 37 = .ok (.iload_n 1, 1) := by decide +kernel
theorem dX10_would_38 : decode cX10_would 38 = .ok (.invokevirtual 308, 3) := by decide +kernel
theorem dX10_would_41 : decode cX10_would 41 = .ok (.iload_n 2, 1) := by decide +kernel
theorem dX10_would_42 : decode cX10_would 42 = .ok (.aload_n 0, 1) := by decide +kernel
theorem dX10_would_43 : decode cX10_would 43 = .ok (.iload_n 1, 1) := by decide +kernel
theorem dX10_would_44 : decode cX10_would 44 = .ok (.invokevirtual 332, 3) := by decide +kernel
theorem dX10_would_47 : decode cX10_would 47 = .ok (.invokevirtual 287, 3) := by decide +kernel
theorem dX10_would_50 : decode cX10_would 50 = .ok (.l2i, 1) := by decide +kernel
theorem dX10_would_51 : decode cX10_would 51 = .ok (.ireturn, 1) := by decide +kernel
theorem dX10_bestWait_0 : decode cX10_bestWait 0 = .ok (.aload_n 0, 1) := by decide +kernel
theorem dX10_bestWait_1 : decode cX10_bestWait 1 = .ok (.iconst 0, 1) := by decide +kernel
theorem dX10_bestWait_2 : decode cX10_bestWait 2 = .ok (.putfield 49, 3) := by decide +kernel
theorem dX10_bestWait_5 : decode cX10_bestWait 5 = .ok (.aload_n 0, 1) := by decide +kernel
theorem dX10_bestWait_6 : decode cX10_bestWait 6 = .ok (.iload_n 1, 1) := by decide +kernel
theorem dX10_bestWait_7 : decode cX10_bestWait 7 = .ok (.invokevirtual 302, 3) := by decide +kernel
theorem dX10_bestWait_10 : decode cX10_bestWait 10 = .ok (.ifCond .eq 12, 3) := by decide +kernel
theorem dX10_bestWait_13 : decode cX10_bestWait 13 = .ok (.iload_n 2, 1) := by decide +kernel
theorem dX10_bestWait_14 : decode cX10_bestWait 14 = .ok (.iconst 0, 1) := by decide +kernel
theorem dX10_bestWait_15 : decode cX10_bestWait 15 = .ok (.iconst 1, 1) := by decide +kernel
theorem dX10_bestWait_16 : decode cX10_bestWait 16 = .ok (.invokestatic 124, 3) := by decide +kernel
theorem dX10_bestWait_19 : decode cX10_bestWait 19 = .ok (.ifCond .ne 5, 3) := by decide +kernel
theorem dX10_bestWait_22 : decode cX10_bestWait 22 = .ok (.iconst (-1), 1) := by decide +kernel
theorem dX10_bestWait_23 : decode cX10_bestWait 23 = .ok (.ireturn, 1) := by decide +kernel
theorem dX10_bestWait_24 : decode cX10_bestWait 24 = .ok (.aload_n 0, 1) := by decide +kernel
theorem dX10_bestWait_25 : decode cX10_bestWait 25 = .ok (.iload_n 1, 1) := by decide +kernel
theorem dX10_bestWait_26 : decode cX10_bestWait 26 = .ok (.invokevirtual 305, 3) := by decide +kernel
theorem dX10_bestWait_29 : decode cX10_bestWait 29 = .ok (.ifCond .eq 6, 3) := by decide +kernel
theorem dX10_bestWait_32 : decode cX10_bestWait 32 = .ok (.bipush (-2), 2) := by decide +kernel
theorem dX10_bestWait_34 : decode cX10_bestWait 34 = .ok (.ireturn, 1) := by decide +kernel
theorem dX10_bestWait_35 : decode cX10_bestWait 35 = .ok (.aload_n 0, 1) := by decide +kernel
theorem dX10_bestWait_36 : decode cX10_bestWait 36 = .ok (.iload_n 1, 1) := by decide +kernel
theorem dX10_bestWait_37 : decode cX10_bestWait 37 = .ok (.invokevirtual 332, 3) := by decide +kernel
theorem dX10_bestWait_40 : decode cX10_bestWait 40 = .ok (.istore_n 3, 1) := by decide +kernel
theorem dX10_bestWait_41 : decode cX10_bestWait 41 = .ok (.aload_n 0, 1) := by decide +kernel
theorem dX10_bestWait_42 : decode cX10_bestWait 42 = .ok (.iload_n 1, 1) := by decide +kernel
theorem dX10_bestWait_43 : decode cX10_bestWait 43 = .ok (.aload_n 0, 1) := by decide +kernel
theorem dX10_bestWait_44 : decode cX10_bestWait 44 = .ok (.iload_n 1, 1) := by decide +kernel
theorem dX10_bestWait_45 : decode cX10_bestWait 45 = .ok (.aload_n 0, 1) := by decide +kernel
theorem dX10_bestWait_46 : decode cX10_bestWait 46 = .ok (.iload_n 1, 1) := by decide +kernel
theorem dX10_bestWait_47 : decode cX10_bestWait 47 = .ok (.iconst 2, 1) := by decide +kernel
theorem dX10_bestWait_48 : decode cX10_bestWait 48 = .ok (.invokevirtual 256, 3) := by decide +kernel
theorem dX10_bestWait_51 : decode cX10_bestWait 51 = .ok (.invokevirtual 273, 3) := by decide +kernel
theorem dX10_bestWait_54 : decode cX10_bestWait 54 = .ok (.iload_n 3, 1) := by decide +kernel
theorem dX10_bestWait_55 : decode cX10_bestWait 55 = .ok (.invokevirtual 280, 3) := by decide +kernel
theorem dX10_bestWait_58 : decode cX10_bestWait 58 = .ok (.lstore 4, 2) := by decide +kernel
theorem dX10_bestWait_60 : decode cX10_bestWait 60 = .ok (.iconst 0, 1) := by decide +kernel
theorem dX10_bestWait_61 : decode cX10_bestWait 61 = .ok (.istore 6, 2) := by decide +kernel
theorem dX10_bestWait_63 : decode cX10_bestWait 63 = .ok (.lconst 0, 1) := by decide +kernel
theorem dX10_bestWait_64 : decode cX10_bestWait 64 = .ok (.lstore 7, 2) := by decide +kernel
theorem dX10_bestWait_66 : decode cX10_bestWait 66 = .ok (.iconst 0, 1) := by decide +kernel
theorem dX10_bestWait_67 : decode cX10_bestWait 67 = .ok (.istore 9, 2) := by decide +kernel
theorem dX10_bestWait_69 : decode cX10_bestWait 69 = .ok (.iload 9, 2) := by decide +kernel
theorem dX10_bestWait_71 : decode cX10_bestWait 71 = .ok (.aload_n 0, 1) := by decide +kernel
theorem dX10_bestWait_72 : decode cX10_bestWait 72 = .ok (.iload_n 1, 1) := by decide +kernel
theorem dX10_bestWait_73 : decode cX10_bestWait 73 = .ok (.invokevirtual 308, 3) := by decide +kernel
theorem dX10_bestWait_76 : decode cX10_bestWait 76 = .ok (.if_icmp .gt 72, 3) := by decide +kernel
theorem dX10_bestWait_79 : decode cX10_bestWait 79 = .ok (.lload 4, 2) := by decide +kernel
theorem dX10_bestWait_81 : decode cX10_bestWait 81 = .ok (.aload_n 0, 1) := by decide +kernel
theorem dX10_bestWait_82 : decode cX10_bestWait 82 = .ok (.iload_n 1, 1) := by decide +kernel
theorem dX10_bestWait_83 : decode cX10_bestWait 83 = .ok (.invokevirtual 317, 3) := by decide +kernel
theorem dX10_bestWait_86 : decode cX10_bestWait 86 = .ok (.ifCond .eq 10, 3) := by decide +kernel
theorem dX10_bestWait_89 : decode cX10_bestWait 89 = .ok (.iload 9, 2) := by decide +kernel
theorem dX10_bestWait_91 : decode cX10_bestWait 91 = .ok (.iconst 1, 1) := by decide +kernel
theorem dX10_bestWait_92 : decode cX10_bestWait 92 = .ok (.iadd, 1) := by decide +kernel
theorem dX10_bestWait_93 : decode cX10_bestWait 93 = .ok (.goto 5, 3) := by decide +kernel
theorem dX10_bestWait_96 : decode cX10_bestWait 96 = .ok (.iload 9, 2) := by decide +kernel
theorem dX10_bestWait_98 : decode cX10_bestWait 98 = .ok (.i2l, 1) := by decide +kernel
theorem dX10_bestWait_99 : decode cX10_bestWait 99 = .ok (.lmul, 1) := by decide +kernel
theorem dX10_bestWait_100 : decode cX10_bestWait 100 = .ok (.aload_n 0, 1) := by decide +kernel
theorem dX10_bestWait_101 : decode cX10_bestWait 101 = .ok (.iload_n 1, 1) := by decide +kernel
theorem dX10_bestWait_102 : decode cX10_bestWait 102 = .ok (.aload_n 0, 1) := by decide +kernel
theorem dX10_bestWait_103 : decode cX10_bestWait 103 = .ok (.iload_n 1, 1) := by decide +kernel
theorem dX10_bestWait_104 : decode cX10_bestWait 104 = .ok (.invokevirtual 308, 3) := by decide +kernel
theorem dX10_bestWait_107 : decode cX10_bestWait 107 = .ok (.iload 9, 2) := by decide +kernel
theorem dX10_bestWait_109 : decode cX10_bestWait 109 = .ok (.isub, 1) := by decide +kernel
theorem dX10_bestWait_110 : decode cX10_bestWait 110 = .ok (.iload_n 2, 1) := by decide +kernel
theorem dX10_bestWait_111 : decode cX10_bestWait 111 = .ok (.iload_n 3, 1) := by decide +kernel
theorem dX10_bestWait_112 : decode cX10_bestWait 112 = .ok (.invokevirtual 287, 3) := by decide +kernel
theorem dX10_bestWait_115 : decode cX10_bestWait 115 = .ok (.ladd, 1) := by decide +kernel
theorem dX10_bestWait_116 : decode cX10_bestWait 116 = .ok (.lstore 10, 2) := by decide +kernel
theorem dX10_bestWait_118 : decode cX10_bestWait 118 = .ok (.iload 9, 2) := by decide +kernel
theorem dX10_bestWait_120 : decode cX10_bestWait 120 = .ok (.ifCond .le 14, 3) := by decide +kernel
theorem dX10_bestWait_123 : decode cX10_bestWait 123 = .ok (.lload 10, 2) := by decide +kernel
theorem dX10_bestWait_125 : decode cX10_bestWait 125 = .ok (.lload 7, 2) := by decide +kernel
theorem dX10_bestWait_127 : decode cX10_bestWait 127 = .ok (.lcmp, 1) := by decide +kernel
theorem dX10_bestWait_128 : decode cX10_bestWait 128 = .ok (.ifCond .gt 6, 3) := by decide +kernel
theorem dX10_bestWait_131 : decode cX10_bestWait 131 = .ok (.goto 11, 3) := by decide +kernel
theorem dX10_bestWait_134 : decode cX10_bestWait 134 = .ok (.iload 9, 2) := by decide +kernel
theorem dX10_bestWait_136 : decode cX10_bestWait 136 = .ok (.istore 6, 2) := by decide +kernel
theorem dX10_bestWait_138 : decode cX10_bestWait 138 = .ok (.lload 10, 2) := by decide +kernel
theorem dX10_bestWait_140 : decode cX10_bestWait 140 = .ok (.lstore 7, 2) := by decide +kernel
theorem dX10_bestWait_142 : decode cX10_bestWait 142 = .ok (.iinc 9 1, 3) := by decide +kernel
theorem dX10_bestWait_145 : decode cX10_bestWait 145 = .ok (.goto (-76), 3) := by decide +kernel
theorem dX10_bestWait_148 : decode cX10_bestWait 148 = .ok (.iload 6, 2) := by decide +kernel
theorem dX10_bestWait_150 : decode cX10_bestWait 150 = .ok (.ireturn, 1) := by decide +kernel
theorem dX10_project_0 : decode cX10_project 0 = .ok (.aload_n 0, 1) := by decide +kernel
theorem dX10_project_1 : decode cX10_project 1 = .ok (.iconst 0, 1) := by decide +kernel
theorem dX10_project_2 : decode cX10_project 2 = .ok (.putfield 49, 3) := by decide +kernel
theorem dX10_project_5 : decode cX10_project 5 = .ok (.aload_n 0, 1) := by decide +kernel
theorem dX10_project_6 : decode cX10_project 6 = .ok (.iload_n 1, 1) := by decide +kernel
theorem dX10_project_7 : decode cX10_project 7 = .ok (.invokevirtual 302, 3) := by decide +kernel
theorem dX10_project_10 : decode cX10_project 10 = .ok (.ifCond .eq 26, 3) := by decide +kernel
theorem dX10_project_13 : decode cX10_project 13 = .ok (.aload_n 0, 1) := by decide +kernel
theorem dX10_project_14 : decode cX10_project 14 = .ok (.iload_n 1, 1) := by decide +kernel
theorem dX10_project_15 : decode cX10_project 15 = .ok (.invokevirtual 305, 3) := by decide +kernel
theorem dX10_project_18 : decode cX10_project 18 = .ok (.ifCond .ne 18, 3) := by decide +kernel
theorem dX10_project_21 : decode cX10_project 21 = .ok (.iload_n 2, 1) := by decide +kernel
theorem dX10_project_22 : decode cX10_project 22 = .ok (.iconst 1, 1) := by decide +kernel
theorem dX10_project_23 : decode cX10_project 23 = .ok (.aload_n 0, 1) := by decide +kernel
theorem dX10_project_24 : decode cX10_project 24 = .ok (.iload_n 1, 1) := by decide +kernel
theorem dX10_project_25 : decode cX10_project 25 = .ok (.invokevirtual 308, 3) := by decide +kernel
theorem dX10_project_28 : decode cX10_project 28 = .ok (.iconst 1, 1) := by decide +kernel
theorem dX10_project_29 : decode cX10_project 29 = .ok (.iadd, 1) := by decide +kernel
theorem dX10_project_30 : decode cX10_project 30 = .ok (.invokestatic 124, 3) := by decide +kernel
theorem dX10_project_33 : decode cX10_project 33 = .ok (.ifCond .ne 7, 3) := by decide +kernel
theorem dX10_project_36 : decode cX10_project 36 = .ok (.ldc_w 326, 3) := by decide +kernel
theorem dX10_project_39 : decode cX10_project 39 = .ok (.ireturn, 1) := by decide +kernel
theorem dX10_project_40 : decode cX10_project 40 = .ok (.aload_n 0, 1) := by decide +kernel
theorem dX10_project_41 : decode cX10_project 41 = .ok (.iload_n 1, 1) := by decide +kernel
theorem dX10_project_42 : decode cX10_project 42 = .ok (.invokevirtual 332, 3) := by decide +kernel
theorem dX10_project_45 : decode cX10_project 45 = .ok (.istore_n 3, 1) := by decide +kernel
theorem dX10_project_46 : decode cX10_project 46 = .ok (.aload_n 0, 1) := by decide +kernel
theorem dX10_project_47 : decode cX10_project 47 = .ok (.iload_n 1, 1) := by decide +kernel
theorem dX10_project_48 : decode cX10_project 48 = .ok (.aload_n 0, 1) := by decide +kernel
theorem dX10_project_49 : decode cX10_project 49 = .ok (.iload_n 1, 1) := by decide +kernel
theorem dX10_project_50 : decode cX10_project 50 = .ok (.aload_n 0, 1) := by decide +kernel
theorem dX10_project_51 : decode cX10_project 51 = .ok (.iload_n 1, 1) := by decide +kernel
theorem dX10_project_52 : decode cX10_project 52 = .ok (.iconst 2, 1) := by decide +kernel
theorem dX10_project_53 : decode cX10_project 53 = .ok (.invokevirtual 256, 3) := by decide +kernel
theorem dX10_project_56 : decode cX10_project 56 = .ok (.invokevirtual 273, 3) := by decide +kernel
theorem dX10_project_59 : decode cX10_project 59 = .ok (.iload_n 3, 1) := by decide +kernel
theorem dX10_project_60 : decode cX10_project 60 = .ok (.invokevirtual 280, 3) := by decide +kernel
theorem dX10_project_63 : decode cX10_project 63 = .ok (.lstore 4, 2) := by decide +kernel
theorem dX10_project_65 : decode cX10_project 65 = .ok (.aload_n 0, 1) := by decide +kernel
theorem dX10_project_66 : decode cX10_project 66 = .ok (.iload_n 1, 1) := by decide +kernel
theorem dX10_project_67 : decode cX10_project 67 = .ok (.invokevirtual 317, 3) := by decide +kernel
theorem dX10_project_70 : decode cX10_project 70 = .ok (.ifCond .eq 20, 3) := by decide +kernel
theorem dX10_project_73 : decode cX10_project 73 = .ok (.aload_n 0, 1) := by decide +kernel
theorem dX10_project_74 : decode cX10_project 74 = .ok (.iload_n 1, 1) := by decide +kernel
theorem dX10_project_75 : decode cX10_project 75 = .ok (.bipush 10, 2) := by decide +kernel
theorem dX10_project_77 : decode cX10_project 77 = .ok (.invokevirtual 256, 3) := by decide +kernel
theorem dX10_project_80 : decode cX10_project 80 = .ok (.i2l, 1) := by decide +kernel
theorem dX10_project_81 : decode cX10_project 81 = .ok (.iload_n 2, 1) := by decide +kernel
theorem dX10_project_82 : decode cX10_project 82 = .ok (.i2l, 1) := by decide +kernel
theorem dX10_project_83 : decode cX10_project 83 = .ok (.lload 4, 2) := by decide +kernel
theorem dX10_project_85 : decode cX10_project 85 = .ok (.lmul, 1) := by decide +kernel
theorem dX10_project_86 : decode cX10_project 86 = .ok (.ladd, 1) := by decide +kernel
theorem dX10_project_87 : decode cX10_project 87 = .ok (.goto 17, 3) := by decide +kernel
theorem dX10_project_90 : decode cX10_project 90 = .ok (.aload_n 0, 1) := by decide +kernel
theorem dX10_project_91 : decode cX10_project 91 = .ok (.iload_n 1, 1) := by decide +kernel
theorem dX10_project_92 : decode cX10_project 92 = .ok (.iload_n 3, 1) := by decide +kernel
theorem dX10_project_93 : decode cX10_project 93 = .ok (.invokevirtual 276, 3) := by decide +kernel
theorem dX10_project_96 : decode cX10_project 96 = .ok (.iload_n 2, 1) := by decide +kernel
theorem dX10_project_97 : decode cX10_project 97 = .ok (.iconst 1, 1) := by decide +kernel
theorem dX10_project_98 : decode cX10_project 98 = .ok (.isub, 1) := by decide +kernel
theorem dX10_project_99 : decode cX10_project 99 = .ok (.i2l, 1) := by decide +kernel
theorem dX10_project_100 : decode cX10_project 100 = .ok (.lload 4, 2) := by decide +kernel
theorem dX10_project_102 : decode cX10_project 102 = .ok (.lmul, 1) := by decide +kernel
theorem dX10_project_103 : decode cX10_project 103 = .ok (.ladd, 1) := by decide +kernel
theorem dX10_project_104 : decode cX10_project 104 = .ok (.l2i, 1) := by decide +kernel
theorem dX10_project_105 : decode cX10_project 105 = .ok (.ireturn, 1) := by decide +kernel
theorem dX10_ifUse_0 : decode cX10_ifUse 0 = .ok (.aload_n 0, 1) := by decide +kernel
theorem dX10_ifUse_1 : decode cX10_ifUse 1 = .ok (.iconst 0, 1) := by decide +kernel
theorem dX10_ifUse_2 : decode cX10_ifUse 2 = .ok (.putfield 49, 3) := by decide +kernel
theorem dX10_ifUse_5 : decode cX10_ifUse 5 = .ok (.aload_n 0, 1) := by decide +kernel
theorem dX10_ifUse_6 : decode cX10_ifUse 6 = .ok (.iload_n 1, 1) := by decide +kernel
theorem dX10_ifUse_7 : decode cX10_ifUse 7 = .ok (.invokevirtual 302, 3) := by decide +kernel
theorem dX10_ifUse_10 : decode cX10_ifUse 10 = .ok (.ifCond .eq 28, 3) := by decide +kernel
theorem dX10_ifUse_13 : decode cX10_ifUse 13 = .ok (.iload_n 2, 1) := by decide +kernel
theorem dX10_ifUse_14 : decode cX10_ifUse 14 = .ok (.iconst 0, 1) := by decide +kernel
theorem dX10_ifUse_15 : decode cX10_ifUse 15 = .ok (.iconst 2, 1) := by decide +kernel
theorem dX10_ifUse_16 : decode cX10_ifUse 16 = .ok (.invokestatic 124, 3) := by decide +kernel
theorem dX10_ifUse_19 : decode cX10_ifUse 19 = .ok (.ifCond .eq 19, 3) := by decide +kernel
theorem dX10_ifUse_22 : decode cX10_ifUse 22 = .ok (.aload_n 0, 1) := by decide +kernel
theorem dX10_ifUse_23 : decode cX10_ifUse 23 = .ok (.iload_n 1, 1) := by decide +kernel
theorem dX10_ifUse_24 : decode cX10_ifUse 24 = .ok (.invokevirtual 305, 3) := by decide +kernel
theorem dX10_ifUse_27 : decode cX10_ifUse 27 = .ok (.ifCond .ne 11, 3) := by decide +kernel
theorem dX10_ifUse_30 : decode cX10_ifUse 30 = .ok (.aload_n 0, 1) := by decide +kernel
theorem dX10_ifUse_31 : decode cX10_ifUse 31 = .ok (.iload_n 1, 1) := by decide +kernel
theorem dX10_ifUse_32 : decode cX10_ifUse 32 = .ok (.invokevirtual 317, 3) := by decide +kernel
theorem dX10_ifUse_35 : decode cX10_ifUse 35 = .ok (.ifCond .ne 7, 3) := by decide +kernel
theorem dX10_ifUse_38 : decode cX10_ifUse 38 = .ok (.ldc_w 326, 3) := by decide +kernel
theorem dX10_ifUse_41 : decode cX10_ifUse 41 = .ok (.ireturn, 1) := by decide +kernel
theorem dX10_ifUse_42 : decode cX10_ifUse 42 = .ok (.aload_n 0, 1) := by decide +kernel
theorem dX10_ifUse_43 : decode cX10_ifUse 43 = .ok (.iload_n 1, 1) := by decide +kernel
theorem dX10_ifUse_44 : decode cX10_ifUse 44 = .ok (.iload_n 2, 1) := by decide +kernel
theorem dX10_ifUse_45 : decode cX10_ifUse 45 = .ok (.invokevirtual 273, 3) := by decide +kernel
theorem dX10_ifUse_48 : decode cX10_ifUse 48 = .ok (.ireturn, 1) := by decide +kernel
theorem dX10_owners_0 : decode cX10_owners 0 = .ok (.aload_n 0, 1) := by decide +kernel
theorem dX10_owners_1 : decode cX10_owners 1 = .ok (.iconst 0, 1) := by decide +kernel
theorem dX10_owners_2 : decode cX10_owners 2 = .ok (.putfield 49, 3) := by decide +kernel
theorem dX10_owners_5 : decode cX10_owners 5 = .ok (.aload_n 0, 1) := by decide +kernel
theorem dX10_owners_6 : decode cX10_owners 6 = .ok (.iload_n 1, 1) := by decide +kernel
theorem dX10_owners_7 : decode cX10_owners 7 = .ok (.invokevirtual 302, 3) := by decide +kernel
theorem dX10_owners_10 : decode cX10_owners 10 = .ok (.ifCond .ne 5, 3) := by decide +kernel
theorem dX10_owners_13 : decode cX10_owners 13 = .ok (.iconst (-1), 1) := by decide +kernel
theorem dX10_owners_14 : decode cX10_owners 14 = .ok (.ireturn, 1) := by decide +kernel
theorem dX10_owners_15 : decode cX10_owners 15 = .ok (.aload_n 0, 1) := by decide +kernel
theorem dX10_owners_16 : decode cX10_owners 16 = .ok (.iload_n 1, 1) := by decide +kernel
theorem dX10_owners_17 : decode cX10_owners 17 = .ok (.bipush 9, 2) := by decide +kernel
theorem dX10_owners_19 : decode cX10_owners 19 = .ok (.invokevirtual 256, 3) := by decide +kernel
theorem dX10_owners_22 : decode cX10_owners 22 = .ok (.iconst 1, 1) := by decide +kernel
theorem dX10_owners_23 : decode cX10_owners 23 = .ok (.if_icmp .ne 7, 3) := by decide +kernel
theorem dX10_owners_26 : decode cX10_owners 26 = .ok (.iconst 0, 1) := by decide +kernel
theorem dX10_owners_27 : decode cX10_owners 27 = .ok (.goto 11, 3) := by decide +kernel
theorem dX10_owners_30 : decode cX10_owners 30 = .ok (.iconst 1, 1) := by decide +kernel
theorem dX10_owners_31 : decode cX10_owners 31 = .ok (.aload_n 0, 1) := by decide +kernel
theorem dX10_owners_32 : decode cX10_owners 32 = .ok (.iload_n 1, 1) := by decide +kernel
theorem dX10_owners_33 : decode cX10_owners 33 = .ok (.iconst 0, 1) := by decide +kernel
theorem dX10_owners_34 : decode cX10_owners 34 = .ok (.invokevirtual 256, 3) := by decide +kernel
theorem dX10_owners_37 : decode cX10_owners 37 = .ok (.ishl, 1) := by decide +kernel
theorem dX10_owners_38 : decode cX10_owners 38 = .ok (.istore_n 2, 1) := by decide +kernel
theorem dX10_owners_39 : decode cX10_owners 39 = .ok (.iconst 0, 1) := by decide +kernel
theorem dX10_owners_40 : decode cX10_owners 40 = .ok (.istore_n 3, 1) := by decide +kernel
theorem dX10_owners_41 : decode cX10_owners 41 = .ok (.iload_n 3, 1) := by decide +kernel
theorem dX10_owners_42 : decode cX10_owners 42 = .ok (.aload_n 0, 1) := by decide +kernel
theorem dX10_owners_43 : decode cX10_owners 43 = .ok (.iload_n 1, 1) := by decide +kernel
theorem dX10_owners_44 : decode cX10_owners 44 = .ok (.bipush 47, 2) := by decide +kernel
theorem dX10_owners_46 : decode cX10_owners 46 = .ok (.invokevirtual 256, 3) := by decide +kernel
theorem dX10_owners_49 : decode cX10_owners 49 = .ok (.if_icmp .ge 23, 3) := by decide +kernel
theorem dX10_owners_52 : decode cX10_owners 52 = .ok (.iload_n 2, 1) := by decide +kernel
theorem dX10_owners_53 : decode cX10_owners 53 = .ok (.iconst 1, 1) := by decide +kernel
theorem dX10_owners_54 : decode cX10_owners 54 = .ok (.aload_n 0, 1) := by decide +kernel
theorem dX10_owners_55 : decode cX10_owners 55 = .ok (.iload_n 1, 1) := by decide +kernel
theorem dX10_owners_56 : decode cX10_owners 56 = .ok (.bipush 37, 2) := by decide +kernel
theorem dX10_owners_58 : decode cX10_owners 58 = .ok (.iload_n 3, 1) := by decide +kernel
theorem dX10_owners_59 : decode cX10_owners 59 = .ok (.iadd, 1) := by decide +kernel
theorem dX10_owners_60 : decode cX10_owners 60 = .ok (.invokevirtual 256, 3) := by decide +kernel
theorem dX10_owners_63 : decode cX10_owners 63 = .ok (.ishl, 1) := by decide +kernel
theorem dX10_owners_64 : decode cX10_owners 64 = .ok (.ior, 1) := by decide +kernel
theorem dX10_owners_65 : decode cX10_owners 65 = .ok (.istore_n 2, 1) := by decide +kernel
theorem dX10_owners_66 : decode cX10_owners 66 = .ok (.iinc 3 1, 3) := by decide +kernel
theorem dX10_owners_69 : decode cX10_owners 69 = .ok (.goto (-28), 3) := by decide +kernel
theorem dX10_owners_72 : decode cX10_owners 72 = .ok (.iconst 0, 1) := by decide +kernel
theorem dX10_owners_73 : decode cX10_owners 73 = .ok (.istore_n 3, 1) := by decide +kernel
theorem dX10_owners_74 : decode cX10_owners 74 = .ok (.iconst 0, 1) := by decide +kernel
theorem dX10_owners_75 : decode cX10_owners 75 = .ok (.istore 4, 2) := by decide +kernel
theorem dX10_owners_77 : decode cX10_owners 77 = .ok (.iload 4, 2) := by decide +kernel
theorem dX10_owners_79 : decode cX10_owners 79 = .ok (.iconst 4, 1) := by decide +kernel
theorem dX10_owners_80 : decode cX10_owners 80 = .ok (.if_icmp .ge 18, 3) := by decide +kernel
theorem dX10_owners_83 : decode cX10_owners 83 = .ok (.iload_n 3, 1) := by decide +kernel
theorem dX10_owners_84 : decode cX10_owners 84 = .ok (.iload_n 2, 1) := by decide +kernel
theorem dX10_owners_85 : decode cX10_owners 85 = .ok (.iload 4, 2) := by decide +kernel
theorem dX10_owners_87 : decode cX10_owners 87 = .ok (.ishr, 1) := by decide +kernel
theorem dX10_owners_88 : decode cX10_owners 88 = .ok (.iconst 1, 1) := by decide +kernel
theorem dX10_owners_89 : decode cX10_owners 89 = .ok (.iand, 1) := by decide +kernel
theorem dX10_owners_90 : decode cX10_owners 90 = .ok (.iadd, 1) := by decide +kernel
theorem dX10_owners_91 : decode cX10_owners 91 = .ok (.istore_n 3, 1) := by decide +kernel
theorem dX10_owners_92 : decode cX10_owners 92 = .ok (.iinc 4 1, 3) := by decide +kernel
theorem dX10_owners_95 : decode cX10_owners 95 = .ok (.goto (-18), 3) := by decide +kernel
theorem dX10_owners_98 : decode cX10_owners 98 = .ok (.iload_n 3, 1) := by decide +kernel
theorem dX10_owners_99 : decode cX10_owners 99 = .ok (.ireturn, 1) := by decide +kernel
theorem dX10_even_0 : decode cX10_even 0 = .ok (.aload_n 0, 1) := by decide +kernel
theorem dX10_even_1 : decode cX10_even 1 = .ok (.iconst 0, 1) := by decide +kernel
theorem dX10_even_2 : decode cX10_even 2 = .ok (.putfield 49, 3) := by decide +kernel
theorem dX10_even_5 : decode cX10_even 5 = .ok (.aload_n 0, 1) := by decide +kernel
theorem dX10_even_6 : decode cX10_even 6 = .ok (.iload_n 1, 1) := by decide +kernel
theorem dX10_even_7 : decode cX10_even 7 = .ok (.invokevirtual 302, 3) := by decide +kernel
theorem dX10_even_10 : decode cX10_even 10 = .ok (.ifCond .eq 15, 3) := by decide +kernel
theorem dX10_even_13 : decode cX10_even 13 = .ok (.iload_n 2, 1) := by decide +kernel
theorem dX10_even_14 : decode cX10_even 14 = .ok (.ldc_w 335, 3) := by decide +kernel
theorem dX10_even_17 : decode cX10_even 17 = .ok (.ldc 87, 2) := by decide +kernel
theorem dX10_even_19 : decode cX10_even 19 = .ok (.invokestatic 124, 3) := by decide +kernel
theorem dX10_even_22 : decode cX10_even 22 = .ok (.ifCond .ne 5, 3) := by decide +kernel
theorem dX10_even_25 : decode cX10_even 25 = .ok (.iconst (-1), 1) := by decide +kernel
theorem dX10_even_26 : decode cX10_even 26 = .ok (.ireturn, 1) := by decide +kernel
theorem dX10_even_27 : decode cX10_even 27 = .ok (.aload_n 0, 1) := by decide +kernel
theorem dX10_even_28 : decode cX10_even 28 = .ok (.iload_n 1, 1) := by decide +kernel
theorem dX10_even_29 : decode cX10_even 29 = .ok (.invokevirtual 317, 3) := by decide +kernel
theorem dX10_even_32 : decode cX10_even 32 = .ok (.ifCond .ne 6, 3) := by decide +kernel
theorem dX10_even_35 : decode cX10_even 35 = .ok (.bipush (-3), 2) := by decide +kernel
theorem dX10_even_37 : decode cX10_even 37 = .ok (.ireturn, 1) := by decide +kernel
theorem dX10_even_38 : decode cX10_even 38 = .ok (.iconst 0, 1) := by decide +kernel
theorem dX10_even_39 : decode cX10_even 39 = .ok (.istore_n 3, 1) := by decide +kernel
theorem dX10_even_40 : decode cX10_even 40 = .ok (.iload_n 3, 1) := by decide +kernel
theorem dX10_even_41 : decode cX10_even 41 = .ok (.aload_n 0, 1) := by decide +kernel
theorem dX10_even_42 : decode cX10_even 42 = .ok (.getfield 32, 3) := by decide +kernel
theorem dX10_even_45 : decode cX10_even 45 = .ok (.iconst 1, 1) := by decide +kernel
theorem dX10_even_46 : decode cX10_even 46 = .ok (.iaload, 1) := by decide +kernel
theorem dX10_even_47 : decode cX10_even 47 = .ok (.if_icmp .gt 30, 3) := by decide +kernel
theorem dX10_even_50 : decode cX10_even 50 = .ok (.aload_n 0, 1) := by decide +kernel
theorem dX10_even_51 : decode cX10_even 51 = .ok (.iload_n 1, 1) := by decide +kernel
theorem dX10_even_52 : decode cX10_even 52 = .ok (.iload_n 3, 1) := by decide +kernel
theorem dX10_even_53 : decode cX10_even 53 = .ok (.aload_n 0, 1) := by decide +kernel
theorem dX10_even_54 : decode cX10_even 54 = .ok (.iload_n 1, 1) := by decide +kernel
theorem dX10_even_55 : decode cX10_even 55 = .ok (.bipush 6, 2) := by decide +kernel
theorem dX10_even_57 : decode cX10_even 57 = .ok (.invokevirtual 256, 3) := by decide +kernel
theorem dX10_even_60 : decode cX10_even 60 = .ok (.invokevirtual 280, 3) := by decide +kernel
theorem dX10_even_63 : decode cX10_even 63 = .ok (.iload_n 2, 1) := by decide +kernel
theorem dX10_even_64 : decode cX10_even 64 = .ok (.i2l, 1) := by decide +kernel
theorem dX10_even_65 : decode cX10_even 65 = .ok (.lcmp, 1) := by decide +kernel
theorem dX10_even_66 : decode cX10_even 66 = .ok (.ifCond .lt 5, 3) := by decide +kernel
theorem dX10_even_69 : decode cX10_even 69 = .ok (.iload_n 3, 1) := by decide +kernel
theorem dX10_even_70 : decode cX10_even 70 = .ok (.ireturn, 1) := by decide +kernel
theorem dX10_even_71 : decode cX10_even 71 = .ok (.iinc 3 1, 3) := by decide +kernel
theorem dX10_even_74 : decode cX10_even 74 = .ok (.goto (-34), 3) := by decide +kernel
theorem dX10_even_77 : decode cX10_even 77 = .ok (.bipush (-2), 2) := by decide +kernel
theorem dX10_even_79 : decode cX10_even 79 = .ok (.ireturn, 1) := by decide +kernel
theorem dX10_worth_0 : decode cX10_worth 0 = .ok (.aload_n 0, 1) := by decide +kernel
theorem dX10_worth_1 : decode cX10_worth 1 = .ok (.iconst 0, 1) := by decide +kernel
theorem dX10_worth_2 : decode cX10_worth 2 = .ok (.putfield 49, 3) := by decide +kernel
theorem dX10_worth_5 : decode cX10_worth 5 = .ok (.aload_n 0, 1) := by decide +kernel
theorem dX10_worth_6 : decode cX10_worth 6 = .ok (.iload_n 1, 1) := by decide +kernel
theorem dX10_worth_7 : decode cX10_worth 7 = .ok (.invokevirtual 302, 3) := by decide +kernel
theorem dX10_worth_10 : decode cX10_worth 10 = .ok (.ifCond .ne 5, 3) := by decide +kernel
theorem dX10_worth_13 : decode cX10_worth 13 = .ok (.iconst (-1), 1) := by decide +kernel
theorem dX10_worth_14 : decode cX10_worth 14 = .ok (.ireturn, 1) := by decide +kernel
theorem dX10_worth_15 : decode cX10_worth 15 = .ok (.aload_n 0, 1) := by decide +kernel
theorem dX10_worth_16 : decode cX10_worth 16 = .ok (.iload_n 1, 1) := by decide +kernel
theorem dX10_worth_17 : decode cX10_worth 17 = .ok (.bipush 9, 2) := by decide +kernel
theorem dX10_worth_19 : decode cX10_worth 19 = .ok (.invokevirtual 256, 3) := by decide +kernel
theorem dX10_worth_22 : decode cX10_worth 22 = .ok (.iconst 1, 1) := by decide +kernel
theorem dX10_worth_23 : decode cX10_worth 23 = .ok (.if_icmp .ne 8, 3) := by decide +kernel
theorem dX10_worth_26 : decode cX10_worth 26 = .ok (.bipush (-2), 2) := by decide +kernel
theorem dX10_worth_28 : decode cX10_worth 28 = .ok (.goto 14, 3) := by decide +kernel
theorem dX10_worth_31 : decode cX10_worth 31 = .ok (.aload_n 0, 1) := by decide +kernel
theorem dX10_worth_32 : decode cX10_worth 32 = .ok (.iload_n 1, 1) := by decide +kernel
theorem dX10_worth_33 : decode cX10_worth 33 = .ok (.aload_n 0, 1) := by decide +kernel
theorem dX10_worth_34 : decode cX10_worth 34 = .ok (.iload_n 1, 1) := by decide +kernel
theorem dX10_worth_35 : decode cX10_worth 35 = .ok (.iconst 2, 1) := by decide +kernel
theorem dX10_worth_36 : decode cX10_worth 36 = .ok (.invokevirtual 256, 3) := by decide +kernel
theorem dX10_worth_39 : decode cX10_worth 39 = .ok (.invokevirtual 273, 3) := by decide +kernel
theorem dX10_worth_42 : decode cX10_worth 42 = .ok (.ireturn, 1) := by decide +kernel
theorem dX10_asNow_0 : decode cX10_asNow 0 = .ok (.aload_n 0, 1) := by decide +kernel
theorem dX10_asNow_1 : decode cX10_asNow 1 = .ok (.iconst 0, 1) := by decide +kernel
theorem dX10_asNow_2 : decode cX10_asNow 2 = .ok (.iconst 1, 1) := by decide +kernel
theorem dX10_asNow_3 : decode cX10_asNow 3 = .ok (.invokevirtual 178, 3) := by decide +kernel
theorem dX10_asNow_6 : decode cX10_asNow 6 = .ok (.aload_n 0, 1) := by decide +kernel
theorem dX10_asNow_7 : decode cX10_asNow 7 = .ok (.iconst 1, 1) := by decide +kernel
theorem dX10_asNow_8 : decode cX10_asNow 8 = .ok (.putfield 101, 3) := by decide +kernel
theorem dX10_asNow_11 : decode cX10_asNow 11 = .ok (.return_, 1) := by decide +kernel
theorem dX10_tried_0 : decode cX10_tried 0 = .ok (.aload_n 0, 1) := by decide +kernel
theorem dX10_tried_1 : decode cX10_tried 1 = .ok (.iconst 0, 1) := by decide +kernel
theorem dX10_tried_2 : decode cX10_tried 2 = .ok (.putfield 49, 3) := by decide +kernel
theorem dX10_tried_5 : decode cX10_tried 5 = .ok (.iload_n 1, 1) := by decide +kernel
theorem dX10_tried_6 : decode cX10_tried 6 = .ok (.iconst 1, 1) := by decide +kernel
theorem dX10_tried_7 : decode cX10_tried 7 = .ok (.bipush 16, 2) := by decide +kernel
theorem dX10_tried_9 : decode cX10_tried 9 = .ok (.invokestatic 124, 3) := by decide +kernel
theorem dX10_tried_12 : decode cX10_tried 12 = .ok (.ifCond .eq 32, 3) := by decide +kernel
theorem dX10_tried_15 : decode cX10_tried 15 = .ok (.aload_n 0, 1) := by decide +kernel
theorem dX10_tried_16 : decode cX10_tried 16 = .ok (.iload_n 2, 1) := by decide +kernel
theorem dX10_tried_17 : decode cX10_tried 17 = .ok (.invokevirtual 296, 3) := by decide +kernel
theorem dX10_tried_20 : decode cX10_tried 20 = .ok (.ifCond .eq 24, 3) := by decide +kernel
theorem dX10_tried_23 : decode cX10_tried 23 = .ok (.iload_n 3, 1) := by decide +kernel
theorem dX10_tried_24 : decode cX10_tried 24 = .ok (.iconst 0, 1) := by decide +kernel
theorem dX10_tried_25 : decode cX10_tried 25 = .ok (.iconst 3, 1) := by decide +kernel
theorem dX10_tried_26 : decode cX10_tried 26 = .ok (.invokestatic 124, 3) := by decide +kernel
theorem dX10_tried_29 : decode cX10_tried 29 = .ok (.ifCond .eq 15, 3) := by decide +kernel
theorem dX10_tried_32 : decode cX10_tried 32 = .ok (.aload_n 0, 1) := by decide +kernel
theorem dX10_tried_33 : decode cX10_tried 33 = .ok (.iconst 0, 1) := by decide +kernel
theorem dX10_tried_34 : decode cX10_tried 34 = .ok (.invokevirtual 174, 3) := by decide +kernel
theorem dX10_tried_37 : decode cX10_tried 37 = .ok (.iload_n 1, 1) := by decide +kernel
theorem dX10_tried_38 : decode cX10_tried 38 = .ok (.iadd, 1) := by decide +kernel
theorem dX10_tried_39 : decode cX10_tried 39 = .ok (.bipush 63, 2) := by decide +kernel
theorem dX10_tried_41 : decode cX10_tried 41 = .ok (.if_icmp .le 7, 3) := by decide +kernel
theorem dX10_tried_44 : decode cX10_tried 44 = .ok (.ldc_w 326, 3) := by decide +kernel
theorem dX10_tried_47 : decode cX10_tried 47 = .ok (.ireturn, 1) := by decide +kernel
theorem dX10_tried_48 : decode cX10_tried 48 = .ok (.aload_n 0, 1) := by decide +kernel
theorem dX10_tried_49 : decode cX10_tried 49 = .ok (.invokevirtual 336, 3) := by decide +kernel
theorem dX10_tried_52 : decode cX10_tried 52 = .ok (.aload_n 0, 1) := by decide +kernel
theorem dX10_tried_53 : decode cX10_tried 53 = .ok (.sipush 2068, 3) := by decide +kernel
theorem dX10_tried_56 : decode cX10_tried 56 = .ok (.iconst 4, 1) := by decide +kernel
theorem dX10_tried_57 : decode cX10_tried 57 = .ok (.iload_n 2, 1) := by decide +kernel
theorem dX10_tried_58 : decode cX10_tried 58 = .ok (.imul, 1) := by decide +kernel
theorem dX10_tried_59 : decode cX10_tried 59 = .ok (.iadd, 1) := by decide +kernel
theorem dX10_tried_60 : decode cX10_tried 60 = .ok (.iload_n 3, 1) := by decide +kernel
theorem dX10_tried_61 : decode cX10_tried 61 = .ok (.iadd, 1) := by decide +kernel
theorem dX10_tried_62 : decode cX10_tried 62 = .ok (.invokevirtual 174, 3) := by decide +kernel
theorem dX10_tried_65 : decode cX10_tried 65 = .ok (.istore 4, 2) := by decide +kernel
theorem dX10_tried_67 : decode cX10_tried 67 = .ok (.iconst 0, 1) := by decide +kernel
theorem dX10_tried_68 : decode cX10_tried 68 = .ok (.istore 5, 2) := by decide +kernel
theorem dX10_tried_70 : decode cX10_tried 70 = .ok (.iload 5, 2) := by decide +kernel
theorem dX10_tried_72 : decode cX10_tried 72 = .ok (.iload_n 1, 1) := by decide +kernel
theorem dX10_tried_73 : decode cX10_tried 73 = .ok (.if_icmp .ge 13, 3) := by decide +kernel
theorem dX10_tried_76 : decode cX10_tried 76 = .ok (.aload_n 0, 1) := by decide +kernel
theorem dX10_tried_77 : decode cX10_tried 77 = .ok (.invokevirtual 311, 3) := by decide +kernel
theorem dX10_tried_80 : decode cX10_tried 80 = .ok (.iinc 5 1, 3) := by decide +kernel
theorem dX10_tried_83 : decode cX10_tried 83 = .ok (.goto (-13), 3) := by decide +kernel
theorem dX10_tried_86 : decode cX10_tried 86 = .ok (.aload_n 0, 1) := by decide +kernel
theorem dX10_tried_87 : decode cX10_tried 87 = .ok (.sipush 2068, 3) := by decide +kernel
theorem dX10_tried_90 : decode cX10_tried 90 = .ok (.iconst 4, 1) := by decide +kernel
theorem dX10_tried_91 : decode cX10_tried 91 = .ok (.iload_n 2, 1) := by decide +kernel
theorem dX10_tried_92 : decode cX10_tried 92 = .ok (.imul, 1) := by decide +kernel
theorem dX10_tried_93 : decode cX10_tried 93 = .ok (.iadd, 1) := by decide +kernel
theorem dX10_tried_94 : decode cX10_tried 94 = .ok (.iload_n 3, 1) := by decide +kernel
theorem dX10_tried_95 : decode cX10_tried 95 = .ok (.iadd, 1) := by decide +kernel
theorem dX10_tried_96 : decode cX10_tried 96 = .ok (.invokevirtual 174, 3) := by decide +kernel
theorem dX10_tried_99 : decode cX10_tried 99 = .ok (.iload 4, 2) := by decide +kernel
theorem dX10_tried_101 : decode cX10_tried 101 = .ok (.isub, 1) := by decide +kernel
theorem dX10_tried_102 : decode cX10_tried 102 = .ok (.istore 5, 2) := by decide +kernel
theorem dX10_tried_104 : decode cX10_tried 104 = .ok (.aload_n 0, 1) := by decide +kernel
theorem dX10_tried_105 : decode cX10_tried 105 = .ok (.iconst 0, 1) := by decide +kernel
theorem dX10_tried_106 : decode cX10_tried 106 = .ok (.putfield 101, 3) := by decide +kernel
theorem dX10_tried_109 : decode cX10_tried 109 = .ok (.iload 5, 2) := by decide +kernel
theorem dX10_tried_111 : decode cX10_tried 111 = .ok (.ireturn, 1) := by decide +kernel
theorem dX10_draw_0 : decode cX10_draw 0 = .ok (.aload_n 0, 1) := by decide +kernel
theorem dX10_draw_1 : decode cX10_draw 1 = .ok (.aload_n 0, 1) := by decide +kernel
theorem dX10_draw_2 : decode cX10_draw 2 = .ok (.getfield 339, 3) := by decide +kernel
theorem dX10_draw_5 : decode cX10_draw 5 = .ok (.ldc2_w 342, 3) := by decide +kernel
theorem dX10_draw_8 : decode cX10_draw 8 = .ok (.lmul, 1) := by decide +kernel
theorem dX10_draw_9 : decode cX10_draw 9 = .ok (.ldc2_w 344, 3) := by decide +kernel
theorem dX10_draw_12 : decode cX10_draw 12 = .ok (.ladd, 1) := by decide +kernel
theorem dX10_draw_13 : decode cX10_draw 13 = .ok (.ldc2_w 346, 3) := by decide +kernel
theorem dX10_draw_16 : decode cX10_draw 16 = .ok (.land, 1) := by decide +kernel
theorem dX10_draw_17 : decode cX10_draw 17 = .ok (.putfield 339, 3) := by decide +kernel
theorem dX10_draw_20 : decode cX10_draw 20 = .ok (.aload_n 0, 1) := by decide +kernel
theorem dX10_draw_21 : decode cX10_draw 21 = .ok (.getfield 339, 3) := by decide +kernel
theorem dX10_draw_24 : decode cX10_draw 24 = .ok (.ldc2_w 348, 3) := by decide +kernel
theorem dX10_draw_27 : decode cX10_draw 27 = .ok (.ldiv, 1) := by decide +kernel
theorem dX10_draw_28 : decode cX10_draw 28 = .ok (.iload_n 1, 1) := by decide +kernel
theorem dX10_draw_29 : decode cX10_draw 29 = .ok (.i2l, 1) := by decide +kernel
theorem dX10_draw_30 : decode cX10_draw 30 = .ok (.lrem, 1) := by decide +kernel
theorem dX10_draw_31 : decode cX10_draw 31 = .ok (.l2i, 1) := by decide +kernel
theorem dX10_draw_32 : decode cX10_draw 32 = .ok (.ireturn, 1) := by decide +kernel
theorem dX10_totalOf_0 : decode cX10_totalOf 0 = .ok (.aload_n 0, 1) := by decide +kernel
theorem dX10_totalOf_1 : decode cX10_totalOf 1 = .ok (.sipush 2068, 3) := by decide +kernel
theorem dX10_totalOf_4 : decode cX10_totalOf 4 = .ok (.iconst 4, 1) := by decide +kernel
theorem dX10_totalOf_5 : decode cX10_totalOf 5 = .ok (.iload_n 1, 1) := by decide +kernel
theorem dX10_totalOf_6 : decode cX10_totalOf 6 = .ok (.imul, 1) := by decide +kernel
theorem dX10_totalOf_7 : decode cX10_totalOf 7 = .ok (.iadd, 1) := by decide +kernel
theorem dX10_totalOf_8 : decode cX10_totalOf 8 = .ok (.invokevirtual 174, 3) := by decide +kernel
theorem dX10_totalOf_11 : decode cX10_totalOf 11 = .ok (.aload_n 0, 1) := by decide +kernel
theorem dX10_totalOf_12 : decode cX10_totalOf 12 = .ok (.sipush 2068, 3) := by decide +kernel
theorem dX10_totalOf_15 : decode cX10_totalOf 15 = .ok (.iconst 4, 1) := by decide +kernel
theorem dX10_totalOf_16 : decode cX10_totalOf 16 = .ok (.iload_n 1, 1) := by decide +kernel
theorem dX10_totalOf_17 : decode cX10_totalOf 17 = .ok (.imul, 1) := by decide +kernel
theorem dX10_totalOf_18 : decode cX10_totalOf 18 = .ok (.iadd, 1) := by decide +kernel
theorem dX10_totalOf_19 : decode cX10_totalOf 19 = .ok (.iconst 1, 1) := by decide +kernel
theorem dX10_totalOf_20 : decode cX10_totalOf 20 = .ok (.iadd, 1) := by decide +kernel
theorem dX10_totalOf_21 : decode cX10_totalOf 21 = .ok (.invokevirtual 174, 3) := by decide +kernel
theorem dX10_totalOf_24 : decode cX10_totalOf 24 = .ok (.iadd, 1) := by decide +kernel
theorem dX10_totalOf_25 : decode cX10_totalOf 25 = .ok (.aload_n 0, 1) := by decide +kernel
theorem dX10_totalOf_26 : decode cX10_totalOf 26 = .ok (.sipush 2068, 3) := by decide +kernel
theorem dX10_totalOf_29 : decode cX10_totalOf 29 = .ok (.iconst 4, 1) := by decide +kernel
theorem dX10_totalOf_30 : decode cX10_totalOf 30 = .ok (.iload_n 1, 1) := by decide +kernel
theorem dX10_totalOf_31 : decode cX10_totalOf 31 = .ok (.imul, 1) := by decide +kernel
theorem dX10_totalOf_32 : decode cX10_totalOf 32 = .ok (.iadd, 1) := by decide +kernel
theorem dX10_totalOf_33 : decode cX10_totalOf 33 = .ok (.iconst 2, 1) := by decide +kernel
theorem dX10_totalOf_34 : decode cX10_totalOf 34 = .ok (.iadd, 1) := by decide +kernel
theorem dX10_totalOf_35 : decode cX10_totalOf 35 = .ok (.invokevirtual 174, 3) := by decide +kernel
theorem dX10_totalOf_38 : decode cX10_totalOf 38 = .ok (.iadd, 1) := by decide +kernel
theorem dX10_totalOf_39 : decode cX10_totalOf 39 = .ok (.aload_n 0, 1) := by decide +kernel
theorem dX10_totalOf_40 : decode cX10_totalOf 40 = .ok (.sipush 2068, 3) := by decide +kernel
theorem dX10_totalOf_43 : decode cX10_totalOf 43 = .ok (.iconst 4, 1) := by decide +kernel
theorem dX10_totalOf_44 : decode cX10_totalOf 44 = .ok (.iload_n 1, 1) := by decide +kernel
theorem dX10_totalOf_45 : decode cX10_totalOf 45 = .ok (.imul, 1) := by decide +kernel
theorem dX10_totalOf_46 : decode cX10_totalOf 46 = .ok (.iadd, 1) := by decide +kernel
theorem dX10_totalOf_47 : decode cX10_totalOf 47 = .ok (.iconst 3, 1) := by decide +kernel
theorem dX10_totalOf_48 : decode cX10_totalOf 48 = .ok (.iadd, 1) := by decide +kernel
theorem dX10_totalOf_49 : decode cX10_totalOf 49 = .ok (.invokevirtual 174, 3) := by decide +kernel
theorem dX10_totalOf_52 : decode cX10_totalOf 52 = .ok (.iadd, 1) := by decide +kernel
theorem dX10_totalOf_53 : decode cX10_totalOf 53 = .ok (.ireturn, 1) := by decide +kernel
theorem dX10_chance_0 : decode cX10_chance 0 = .ok (.aload_n 0, 1) := by decide +kernel
theorem dX10_chance_1 : decode cX10_chance 1 = .ok (.iconst 0, 1) := by decide +kernel
theorem dX10_chance_2 : decode cX10_chance 2 = .ok (.putfield 49, 3) := by decide +kernel
theorem dX10_chance_5 : decode cX10_chance 5 = .ok (.iload_n 1, 1) := by decide +kernel
theorem dX10_chance_6 : decode cX10_chance 6 = .ok (.iconst (-1), 1) := by decide +kernel
theorem dX10_chance_7 : decode cX10_chance 7 = .ok (.if_icmp .lt 33, 3) := by decide +kernel
theorem dX10_chance_10 : decode cX10_chance 10 = .ok (.iload_n 2, 1) := by decide +kernel
theorem dX10_chance_11 : decode cX10_chance 11 = .ok (.iconst 1, 1) := by decide +kernel
theorem dX10_chance_12 : decode cX10_chance 12 = .ok (.bipush 8, 2) := by decide +kernel
theorem dX10_chance_14 : decode cX10_chance 14 = .ok (.invokestatic 124, 3) := by decide +kernel
theorem dX10_chance_17 : decode cX10_chance 17 = .ok (.ifCond .eq 23, 3) := by decide +kernel
theorem dX10_chance_20 : decode cX10_chance 20 = .ok (.aload_n 0, 1) := by decide +kernel
theorem dX10_chance_21 : decode cX10_chance 21 = .ok (.iload_n 3, 1) := by decide +kernel
theorem dX10_chance_22 : decode cX10_chance 22 = .ok (.invokevirtual 296, 3) := by decide +kernel
theorem dX10_chance_25 : decode cX10_chance 25 = .ok (.ifCond .eq 15, 3) := by decide +kernel
theorem dX10_chance_28 : decode cX10_chance 28 = .ok (.aload_n 0, 1) := by decide +kernel
theorem dX10_chance_29 : decode cX10_chance 29 = .ok (.iconst 0, 1) := by decide +kernel
theorem dX10_chance_30 : decode cX10_chance 30 = .ok (.invokevirtual 174, 3) := by decide +kernel
theorem dX10_chance_33 : decode cX10_chance 33 = .ok (.iload_n 2, 1) := by decide +kernel
theorem dX10_chance_34 : decode cX10_chance 34 = .ok (.iadd, 1) := by decide +kernel
theorem dX10_chance_35 : decode cX10_chance 35 = .ok (.bipush 63, 2) := by decide +kernel
theorem dX10_chance_37 : decode cX10_chance 37 = .ok (.if_icmp .le 7, 3) := by decide +kernel
theorem dX10_chance_40 : decode cX10_chance 40 = .ok (.ldc_w 326, 3) := by decide +kernel
theorem dX10_chance_43 : decode cX10_chance 43 = .ok (.ireturn, 1) := by decide +kernel
theorem dX10_chance_44 : decode cX10_chance 44 = .ok (.aload_n 0, 1) := by decide +kernel
theorem dX10_chance_45 : decode cX10_chance 45 = .ok (.iload_n 1, 1) := by decide +kernel
theorem dX10_chance_46 : decode cX10_chance 46 = .ok (.ifCond .ge 13, 3) := by decide +kernel
theorem dX10_chance_49 : decode cX10_chance 49 = .ok (.aload_n 0, 1) := by decide +kernel
theorem dX10_chance_50 : decode cX10_chance 50 = .ok (.getfield 32, 3) := by decide +kernel
theorem dX10_chance_53 : decode cX10_chance 53 = .ok (.iconst 3, 1) := by decide +kernel
theorem dX10_chance_54 : decode cX10_chance 54 = .ok (.iaload, 1) := by decide +kernel
theorem dX10_chance_55 : decode cX10_chance 55 = .ok (.i2l, 1) := by decide +kernel
theorem dX10_chance_56 : decode cX10_chance 56 = .ok (.goto 5, 3) := by decide +kernel
theorem dX10_chance_59 : decode cX10_chance 59 = .ok (.iload_n 1, 1) := by decide +kernel
theorem dX10_chance_60 : decode cX10_chance 60 = .ok (.i2l, 1) := by decide +kernel
theorem dX10_chance_61 : decode cX10_chance 61 = .ok (.putfield 339, 3) := by decide +kernel
theorem dX10_chance_64 : decode cX10_chance 64 = .ok (.aload_n 0, 1) := by decide +kernel
theorem dX10_chance_65 : decode cX10_chance 65 = .ok (.invokevirtual 336, 3) := by decide +kernel
theorem dX10_chance_68 : decode cX10_chance 68 = .ok (.aload_n 0, 1) := by decide +kernel
theorem dX10_chance_69 : decode cX10_chance 69 = .ok (.iload_n 3, 1) := by decide +kernel
theorem dX10_chance_70 : decode cX10_chance 70 = .ok (.invokevirtual 350, 3) := by decide +kernel
theorem dX10_chance_73 : decode cX10_chance 73 = .ok (.istore 4, 2) := by decide +kernel
theorem dX10_chance_75 : decode cX10_chance 75 = .ok (.iconst 0, 1) := by decide +kernel
theorem dX10_chance_76 : decode cX10_chance 76 = .ok (.istore 5, 2) := by decide +kernel
theorem dX10_chance_78 : decode cX10_chance 78 = .ok (.iload 5, 2) := by decide +kernel
theorem dX10_chance_80 : decode cX10_chance 80 = .ok (.iload_n 2, 1) := by decide +kernel
theorem dX10_chance_81 : decode cX10_chance 81 = .ok (.if_icmp .ge 57, 3) := by decide +kernel
theorem dX10_chance_84 : decode cX10_chance 84 = .ok (.aload_n 0, 1) := by decide +kernel
theorem dX10_chance_85 : decode cX10_chance 85 = .ok (.aload_n 0, 1) := by decide +kernel
theorem dX10_chance_86 : decode cX10_chance 86 = .ok (.iload_n 3, 1) := by decide +kernel
theorem dX10_chance_87 : decode cX10_chance 87 = .ok (.aload_n 0, 1) := by decide +kernel
theorem dX10_chance_88 : decode cX10_chance 88 = .ok (.iconst 0, 1) := by decide +kernel
theorem dX10_chance_89 : decode cX10_chance 89 = .ok (.invokevirtual 174, 3) := by decide +kernel
theorem dX10_chance_92 : decode cX10_chance 92 = .ok (.iconst 0, 1) := by decide +kernel
theorem dX10_chance_93 : decode cX10_chance 93 = .ok (.invokevirtual 181, 3) := by decide +kernel
theorem dX10_chance_96 : decode cX10_chance 96 = .ok (.aload_n 0, 1) := by decide +kernel
theorem dX10_chance_97 : decode cX10_chance 97 = .ok (.sipush 1000, 3) := by decide +kernel
theorem dX10_chance_100 : decode cX10_chance 100 = .ok (.invokevirtual 353, 3) := by decide +kernel
theorem dX10_chance_103 : decode cX10_chance 103 = .ok (.invokevirtual 184, 3) := by decide +kernel
theorem dX10_chance_106 : decode cX10_chance 106 = .ok (.aload_n 0, 1) := by decide +kernel
theorem dX10_chance_107 : decode cX10_chance 107 = .ok (.aload_n 0, 1) := by decide +kernel
theorem dX10_chance_108 : decode cX10_chance 108 = .ok (.iload_n 3, 1) := by decide +kernel
theorem dX10_chance_109 : decode cX10_chance 109 = .ok (.aload_n 0, 1) := by decide +kernel
theorem dX10_chance_110 : decode cX10_chance 110 = .ok (.iconst 0, 1) := by decide +kernel
theorem dX10_chance_111 : decode cX10_chance 111 = .ok (.invokevirtual 174, 3) := by decide +kernel
theorem dX10_chance_114 : decode cX10_chance 114 = .ok (.iconst 1, 1) := by decide +kernel
theorem dX10_chance_115 : decode cX10_chance 115 = .ok (.invokevirtual 181, 3) := by decide +kernel
theorem dX10_chance_118 : decode cX10_chance 118 = .ok (.aload_n 0, 1) := by decide +kernel
theorem dX10_chance_119 : decode cX10_chance 119 = .ok (.sipush 1000, 3) := by decide +kernel
theorem dX10_chance_122 : decode cX10_chance 122 = .ok (.invokevirtual 353, 3) := by decide +kernel
theorem dX10_chance_125 : decode cX10_chance 125 = .ok (.invokevirtual 184, 3) := by decide +kernel
theorem dX10_chance_128 : decode cX10_chance 128 = .ok (.aload_n 0, 1) := by decide +kernel
theorem dX10_chance_129 : decode cX10_chance 129 = .ok (.invokevirtual 311, 3) := by decide +kernel
theorem dX10_chance_132 : decode cX10_chance 132 = .ok (.iinc 5 1, 3) := by decide +kernel
theorem dX10_chance_135 : decode cX10_chance 135 = .ok (.goto (-57), 3) := by decide +kernel
theorem dX10_chance_138 : decode cX10_chance 138 = .ok (.aload_n 0, 1) := by decide +kernel
theorem dX10_chance_139 : decode cX10_chance 139 = .ok (.iload_n 3, 1) := by decide +kernel
theorem dX10_chance_140 : decode cX10_chance 140 = .ok (.invokevirtual 350, 3) := by decide +kernel
theorem dX10_chance_143 : decode cX10_chance 143 = .ok (.iload 4, 2) := by decide +kernel
theorem dX10_chance_145 : decode cX10_chance 145 = .ok (.isub, 1) := by decide +kernel
theorem dX10_chance_146 : decode cX10_chance 146 = .ok (.istore 5, 2) := by decide +kernel
theorem dX10_chance_148 : decode cX10_chance 148 = .ok (.aload_n 0, 1) := by decide +kernel
theorem dX10_chance_149 : decode cX10_chance 149 = .ok (.iconst 0, 1) := by decide +kernel
theorem dX10_chance_150 : decode cX10_chance 150 = .ok (.putfield 101, 3) := by decide +kernel
theorem dX10_chance_153 : decode cX10_chance 153 = .ok (.iload 5, 2) := by decide +kernel
theorem dX10_chance_155 : decode cX10_chance 155 = .ok (.ireturn, 1) := by decide +kernel
theorem dX10_farthest_0 : decode cX10_farthest 0 = .ok (.aload_n 0, 1) := by decide +kernel
theorem dX10_farthest_1 : decode cX10_farthest 1 = .ok (.iconst 0, 1) := by decide +kernel
theorem dX10_farthest_2 : decode cX10_farthest 2 = .ok (.putfield 49, 3) := by decide +kernel
theorem dX10_farthest_5 : decode cX10_farthest 5 = .ok (.aload_n 0, 1) := by decide +kernel
theorem dX10_farthest_6 : decode cX10_farthest 6 = .ok (.iload_n 1, 1) := by decide +kernel
theorem dX10_farthest_7 : decode cX10_farthest 7 = .ok (.invokevirtual 296, 3) := by decide +kernel
theorem dX10_farthest_10 : decode cX10_farthest 10 = .ok (.ifCond .ne 5, 3) := by decide +kernel
theorem dX10_farthest_13 : decode cX10_farthest 13 = .ok (.iconst (-1), 1) := by decide +kernel
theorem dX10_farthest_14 : decode cX10_farthest 14 = .ok (.ireturn, 1) := by decide +kernel
theorem dX10_farthest_15 : decode cX10_farthest 15 = .ok (.bipush (-2), 2) := by decide +kernel
theorem dX10_farthest_17 : decode cX10_farthest 17 = .ok (.istore_n 2, 1) := by decide +kernel
theorem dX10_farthest_18 : decode cX10_farthest 18 = .ok (.iconst 0, 1) := by decide +kernel
theorem dX10_farthest_19 : decode cX10_farthest 19 = .ok (.istore_n 3, 1) := by decide +kernel
theorem dX10_farthest_20 : decode cX10_farthest 20 = .ok (.iconst 0, 1) := by decide +kernel
theorem dX10_farthest_21 : decode cX10_farthest 21 = .ok (.istore 4, 2) := by decide +kernel
theorem dX10_farthest_23 : decode cX10_farthest 23 = .ok (.iload 4, 2) := by decide +kernel
theorem dX10_farthest_25 : decode cX10_farthest 25 = .ok (.aload_n 0, 1) := by decide +kernel
theorem dX10_farthest_26 : decode cX10_farthest 26 = .ok (.invokevirtual 233, 3) := by decide +kernel
theorem dX10_farthest_29 : decode cX10_farthest 29 = .ok (.if_icmp .ge 60, 3) := by decide +kernel
theorem dX10_farthest_32 : decode cX10_farthest 32 = .ok (.aload_n 0, 1) := by decide +kernel
theorem dX10_farthest_33 : decode cX10_farthest 33 = .ok (.iload_n 1, 1) := by decide +kernel
theorem dX10_farthest_34 : decode cX10_farthest 34 = .ok (.iload 4, 2) := by decide +kernel
theorem dX10_farthest_36 : decode cX10_farthest 36 = .ok (.invokevirtual 327, 3) := by decide +kernel
theorem dX10_farthest_39 : decode cX10_farthest 39 = .ok (.aload_n 0, 1) := by decide +kernel
theorem dX10_farthest_40 : decode cX10_farthest 40 = .ok (.iload_n 1, 1) := by decide +kernel
theorem dX10_farthest_41 : decode cX10_farthest 41 = .ok (.iload 4, 2) := by decide +kernel
theorem dX10_farthest_43 : decode cX10_farthest 43 = .ok (.invokevirtual 261, 3) := by decide +kernel
theorem dX10_farthest_46 : decode cX10_farthest 46 = .ok (.isub, 1) := by decide +kernel
theorem dX10_farthest_47 : decode cX10_farthest 47 = .ok (.istore 5, 2) := by decide +kernel
theorem dX10_farthest_49 : decode cX10_farthest 49 = .ok (.iload 5, 2) := by decide +kernel
theorem dX10_farthest_51 : decode cX10_farthest 51 = .ok (.ifCond .ge 9, 3) := by decide +kernel
theorem dX10_farthest_54 : decode cX10_farthest 54 = .ok (.iload 5, 2) := by decide +kernel
theorem dX10_farthest_56 : decode cX10_farthest 56 = .ok (.ineg, 1) := by decide +kernel
theorem dX10_farthest_57 : decode cX10_farthest 57 = .ok (.goto 5, 3) := by decide +kernel
theorem dX10_farthest_60 : decode cX10_farthest 60 = .ok (.iload 5, 2) := by decide +kernel
theorem dX10_farthest_62 : decode cX10_farthest 62 = .ok (.istore 5, 2) := by decide +kernel
theorem dX10_farthest_64 : decode cX10_farthest 64 = .ok (.iload_n 2, 1) := by decide +kernel
theorem dX10_farthest_65 : decode cX10_farthest 65 = .ok (.ifCond .lt 12, 3) := by decide +kernel
theorem dX10_farthest_68 : decode cX10_farthest 68 = .ok (.iload 5, 2) := by decide +kernel
theorem dX10_farthest_70 : decode cX10_farthest 70 = .ok (.iload_n 3, 1) := by decide +kernel
theorem dX10_farthest_71 : decode cX10_farthest 71 = .ok (.if_icmp .gt 6, 3) := by decide +kernel
theorem dX10_farthest_74 : decode cX10_farthest 74 = .ok (.goto 9, 3) := by decide +kernel
theorem dX10_farthest_77 : decode cX10_farthest 77 = .ok (.iload 4, 2) := by decide +kernel
theorem dX10_farthest_79 : decode cX10_farthest 79 = .ok (.istore_n 2, 1) := by decide +kernel
theorem dX10_farthest_80 : decode cX10_farthest 80 = .ok (.iload 5, 2) := by decide +kernel
theorem dX10_farthest_82 : decode cX10_farthest 82 = .ok (.istore_n 3, 1) := by decide +kernel
theorem dX10_farthest_83 : decode cX10_farthest 83 = .ok (.iinc 4 1, 3) := by decide +kernel
theorem dX10_farthest_86 : decode cX10_farthest 86 = .ok (.goto (-63), 3) := by decide +kernel
theorem dX10_farthest_89 : decode cX10_farthest 89 = .ok (.iload_n 2, 1) := by decide +kernel
theorem dX10_farthest_90 : decode cX10_farthest 90 = .ok (.ireturn, 1) := by decide +kernel
theorem dX10_count_0 : decode cX10_count 0 = .ok (.aload_n 0, 1) := by decide +kernel
theorem dX10_count_1 : decode cX10_count 1 = .ok (.iconst 0, 1) := by decide +kernel
theorem dX10_count_2 : decode cX10_count 2 = .ok (.putfield 49, 3) := by decide +kernel
theorem dX10_count_5 : decode cX10_count 5 = .ok (.iconst 0, 1) := by decide +kernel
theorem dX10_count_6 : decode cX10_count 6 = .ok (.istore_n 2, 1) := by decide +kernel
theorem dX10_count_7 : decode cX10_count 7 = .ok (.iload_n 1, 1) := by decide +kernel
theorem dX10_count_8 : decode cX10_count 8 = .ok (.tableswitch 179 0 12 #[68, 73, 79, 87, 118, 126, 133, 140, 147, 154, 161, 166, 171], 68) := by decide +kernel
theorem dX10_count_76 : decode cX10_count 76 = .ok (.aload_n 0, 1) := by decide +kernel
theorem dX10_count_77 : decode cX10_count 77 = .ok (.getfield 94, 3) := by decide +kernel
theorem dX10_count_80 : decode cX10_count 80 = .ok (.ireturn, 1) := by decide +kernel
theorem dX10_count_81 : decode cX10_count 81 = .ok (.aload_n 0, 1) := by decide +kernel
theorem dX10_count_82 : decode cX10_count 82 = .ok (.iconst 0, 1) := by decide +kernel
theorem dX10_count_83 : decode cX10_count 83 = .ok (.invokevirtual 174, 3) := by decide +kernel
theorem dX10_count_86 : decode cX10_count 86 = .ok (.ireturn, 1) := by decide +kernel
theorem dX10_count_87 : decode cX10_count 87 = .ok (.aload_n 0, 1) := by decide +kernel
theorem dX10_count_88 : decode cX10_count 88 = .ok (.sipush 1865, 3) := by decide +kernel
theorem dX10_count_91 : decode cX10_count 91 = .ok (.invokevirtual 174, 3) := by decide +kernel
theorem dX10_count_94 : decode cX10_count 94 = .ok (.ireturn, 1) := by decide +kernel
theorem dX10_count_95 : decode cX10_count 95 = .ok (.iconst 0, 1) := by decide +kernel
theorem dX10_count_96 : decode cX10_count 96 = .ok (.istore_n 3, 1) := by decide +kernel
theorem dX10_count_97 : decode cX10_count 97 = .ok (.iload_n 3, 1) := by decide +kernel
theorem dX10_count_98 : decode cX10_count 98 = .ok (.aload_n 0, 1) := by decide +kernel
theorem dX10_count_99 : decode cX10_count 99 = .ok (.sipush 1865, 3) := by decide +kernel
theorem dX10_count_102 : decode cX10_count 102 = .ok (.invokevirtual 174, 3) := by decide +kernel
theorem dX10_count_105 : decode cX10_count 105 = .ok (.if_icmp .ge 19, 3) := by decide +kernel
theorem dX10_count_108 : decode cX10_count 108 = .ok (.iload_n 2, 1) := by decide +kernel
theorem dX10_count_109 : decode cX10_count 109 = .ok (.aload_n 0, 1) := by decide +kernel
theorem dX10_count_110 : decode cX10_count 110 = .ok (.iload_n 3, 1) := by decide +kernel
theorem dX10_count_111 : decode cX10_count 111 = .ok (.bipush 9, 2) := by decide +kernel
theorem dX10_count_113 : decode cX10_count 113 = .ok (.invokevirtual 256, 3) := by decide +kernel
theorem dX10_count_116 : decode cX10_count 116 = .ok (.iadd, 1) := by decide +kernel
theorem dX10_count_117 : decode cX10_count 117 = .ok (.istore_n 2, 1) := by decide +kernel
theorem dX10_count_118 : decode cX10_count 118 = .ok (.iinc 3 1, 3) := by decide +kernel
theorem dX10_count_121 : decode cX10_count 121 = .ok (.goto (-24), 3) := by decide +kernel
theorem dX10_count_124 : decode cX10_count 124 = .ok (.iload_n 2, 1) := by decide +kernel
theorem dX10_count_125 : decode cX10_count 125 = .ok (.ireturn, 1) := by decide +kernel
theorem dX10_count_126 : decode cX10_count 126 = .ok (.aload_n 0, 1) := by decide +kernel
theorem dX10_count_127 : decode cX10_count 127 = .ok (.sipush 1866, 3) := by decide +kernel
theorem dX10_count_130 : decode cX10_count 130 = .ok (.invokevirtual 174, 3) := by decide +kernel
theorem dX10_count_133 : decode cX10_count 133 = .ok (.ireturn, 1) := by decide +kernel
theorem dX10_count_134 : decode cX10_count 134 = .ok (.aload_n 0, 1) := by decide +kernel
theorem dX10_count_135 : decode cX10_count 135 = .ok (.getfield 32, 3) := by decide +kernel
theorem dX10_count_138 : decode cX10_count 138 = .ok (.iconst 1, 1) := by decide +kernel
theorem dX10_count_139 : decode cX10_count 139 = .ok (.iaload, 1) := by decide +kernel
theorem dX10_count_140 : decode cX10_count 140 = .ok (.ireturn, 1) := by decide +kernel
theorem dX10_count_141 : decode cX10_count 141 = .ok (.aload_n 0, 1) := by decide +kernel
theorem dX10_count_142 : decode cX10_count 142 = .ok (.getfield 32, 3) := by decide +kernel
theorem dX10_count_145 : decode cX10_count 145 = .ok (.iconst 0, 1) := by decide +kernel
theorem dX10_count_146 : decode cX10_count 146 = .ok (.iaload, 1) := by decide +kernel
theorem dX10_count_147 : decode cX10_count 147 = .ok (.ireturn, 1) := by decide +kernel
theorem dX10_count_148 : decode cX10_count 148 = .ok (.aload_n 0, 1) := by decide +kernel
theorem dX10_count_149 : decode cX10_count 149 = .ok (.getfield 32, 3) := by decide +kernel
theorem dX10_count_152 : decode cX10_count 152 = .ok (.iconst 2, 1) := by decide +kernel
theorem dX10_count_153 : decode cX10_count 153 = .ok (.iaload, 1) := by decide +kernel
theorem dX10_count_154 : decode cX10_count 154 = .ok (.ireturn, 1) := by decide +kernel
theorem dX10_count_155 : decode cX10_count 155 = .ok (.aload_n 0, 1) := by decide +kernel
theorem dX10_count_156 : decode cX10_count 156 = .ok (.getfield 32, 3) := by decide +kernel
theorem dX10_count_159 : decode cX10_count 159 = .ok (.iconst 4, 1) := by decide +kernel
theorem dX10_count_160 : decode cX10_count 160 = .ok (.iaload, 1) := by decide +kernel
theorem dX10_count_161 : decode cX10_count 161 = .ok (.ireturn, 1) := by decide +kernel
theorem dX10_count_162 : decode cX10_count 162 = .ok (.aload_n 0, 1) := by decide +kernel
theorem dX10_count_163 : decode cX10_count 163 = .ok (.getfield 32, 3) := by decide +kernel
theorem dX10_count_166 : decode cX10_count 166 = .ok (.iconst 5, 1) := by decide +kernel
theorem dX10_count_167 : decode cX10_count 167 = .ok (.iaload, 1) := by decide +kernel
theorem dX10_count_168 : decode cX10_count 168 = .ok (.ireturn, 1) := by decide +kernel
theorem dX10_count_169 : decode cX10_count 169 = .ok (.aload_n 0, 1) := by decide +kernel
theorem dX10_count_170 : decode cX10_count 170 = .ok (.getfield 104, 3) := by decide +kernel
theorem dX10_count_173 : decode cX10_count 173 = .ok (.ireturn, 1) := by decide +kernel
theorem dX10_count_174 : decode cX10_count 174 = .ok (.aload_n 0, 1) := by decide +kernel
theorem dX10_count_175 : decode cX10_count 175 = .ok (.getfield 52, 3) := by decide +kernel
theorem dX10_count_178 : decode cX10_count 178 = .ok (.ireturn, 1) := by decide +kernel
theorem dX10_count_179 : decode cX10_count 179 = .ok (.aload_n 0, 1) := by decide +kernel
theorem dX10_count_180 : decode cX10_count 180 = .ok (.getfield 32, 3) := by decide +kernel
theorem dX10_count_183 : decode cX10_count 183 = .ok (.bipush 6, 2) := by decide +kernel
theorem dX10_count_185 : decode cX10_count 185 = .ok (.iaload, 1) := by decide +kernel
theorem dX10_count_186 : decode cX10_count 186 = .ok (.ireturn, 1) := by decide +kernel
theorem dX10_count_187 : decode cX10_count 187 = .ok (.iconst (-1), 1) := by decide +kernel
theorem dX10_count_188 : decode cX10_count 188 = .ok (.ireturn, 1) := by decide +kernel
theorem dJx29ce0_ordinal_8abf5_0 : decode cJx29ce0_ordinal_8abf5 0 = .ok (.aload_n 0, 1) := by decide +kernel
theorem dJx29ce0_ordinal_8abf5_1 : decode cJx29ce0_ordinal_8abf5 1 = .ok (.getfield 7, 3) := by decide +kernel
theorem dJx29ce0_ordinal_8abf5_4 : decode cJx29ce0_ordinal_8abf5 4 = .ok (.ireturn, 1) := by decide +kernel
theorem dJ6_bitCount_0f7a4_0 : decode cJ6_bitCount_0f7a4 0 = .ok (.iload_n 0, 1) := by decide +kernel
theorem dJ6_bitCount_0f7a4_1 : decode cJ6_bitCount_0f7a4 1 = .ok (.iload_n 0, 1) := by decide +kernel
theorem dJ6_bitCount_0f7a4_2 : decode cJ6_bitCount_0f7a4 2 = .ok (.iconst 1, 1) := by decide +kernel
theorem dJ6_bitCount_0f7a4_3 : decode cJ6_bitCount_0f7a4 3 = .ok (.iushr, 1) := by decide +kernel
theorem dJ6_bitCount_0f7a4_4 : decode cJ6_bitCount_0f7a4 4 = .ok (.ldc_w 265, 3) := by decide +kernel
theorem dJ6_bitCount_0f7a4_7 : decode cJ6_bitCount_0f7a4 7 = .ok (.iand, 1) := by decide +kernel
theorem dJ6_bitCount_0f7a4_8 : decode cJ6_bitCount_0f7a4 8 = .ok (.isub, 1) := by decide +kernel
theorem dJ6_bitCount_0f7a4_9 : decode cJ6_bitCount_0f7a4 9 = .ok (.istore_n 0, 1) := by decide +kernel
theorem dJ6_bitCount_0f7a4_10 : decode cJ6_bitCount_0f7a4 10 = .ok (.iload_n 0, 1) := by decide +kernel
theorem dJ6_bitCount_0f7a4_11 : decode cJ6_bitCount_0f7a4 11 = .ok (.ldc_w 266, 3) := by decide +kernel
theorem dJ6_bitCount_0f7a4_14 : decode cJ6_bitCount_0f7a4 14 = .ok (.iand, 1) := by decide +kernel
theorem dJ6_bitCount_0f7a4_15 : decode cJ6_bitCount_0f7a4 15 = .ok (.iload_n 0, 1) := by decide +kernel
theorem dJ6_bitCount_0f7a4_16 : decode cJ6_bitCount_0f7a4 16 = .ok (.iconst 2, 1) := by decide +kernel
theorem dJ6_bitCount_0f7a4_17 : decode cJ6_bitCount_0f7a4 17 = .ok (.iushr, 1) := by decide +kernel
theorem dJ6_bitCount_0f7a4_18 : decode cJ6_bitCount_0f7a4 18 = .ok (.ldc_w 266, 3) := by decide +kernel
theorem dJ6_bitCount_0f7a4_21 : decode cJ6_bitCount_0f7a4 21 = .ok (.iand, 1) := by decide +kernel
theorem dJ6_bitCount_0f7a4_22 : decode cJ6_bitCount_0f7a4 22 = .ok (.iadd, 1) := by decide +kernel
theorem dJ6_bitCount_0f7a4_23 : decode cJ6_bitCount_0f7a4 23 = .ok (.istore_n 0, 1) := by decide +kernel
theorem dJ6_bitCount_0f7a4_24 : decode cJ6_bitCount_0f7a4 24 = .ok (.iload_n 0, 1) := by decide +kernel
theorem dJ6_bitCount_0f7a4_25 : decode cJ6_bitCount_0f7a4 25 = .ok (.iload_n 0, 1) := by decide +kernel
theorem dJ6_bitCount_0f7a4_26 : decode cJ6_bitCount_0f7a4 26 = .ok (.iconst 4, 1) := by decide +kernel
theorem dJ6_bitCount_0f7a4_27 : decode cJ6_bitCount_0f7a4 27 = .ok (.iushr, 1) := by decide +kernel
theorem dJ6_bitCount_0f7a4_28 : decode cJ6_bitCount_0f7a4 28 = .ok (.iadd, 1) := by decide +kernel
theorem dJ6_bitCount_0f7a4_29 : decode cJ6_bitCount_0f7a4 29 = .ok (.ldc_w 267, 3) := by decide +kernel
theorem dJ6_bitCount_0f7a4_32 : decode cJ6_bitCount_0f7a4 32 = .ok (.iand, 1) := by decide +kernel
theorem dJ6_bitCount_0f7a4_33 : decode cJ6_bitCount_0f7a4 33 = .ok (.istore_n 0, 1) := by decide +kernel
theorem dJ6_bitCount_0f7a4_34 : decode cJ6_bitCount_0f7a4 34 = .ok (.iload_n 0, 1) := by decide +kernel
theorem dJ6_bitCount_0f7a4_35 : decode cJ6_bitCount_0f7a4 35 = .ok (.iload_n 0, 1) := by decide +kernel
theorem dJ6_bitCount_0f7a4_36 : decode cJ6_bitCount_0f7a4 36 = .ok (.bipush 8, 2) := by decide +kernel
theorem dJ6_bitCount_0f7a4_38 : decode cJ6_bitCount_0f7a4 38 = .ok (.iushr, 1) := by decide +kernel
theorem dJ6_bitCount_0f7a4_39 : decode cJ6_bitCount_0f7a4 39 = .ok (.iadd, 1) := by decide +kernel
theorem dJ6_bitCount_0f7a4_40 : decode cJ6_bitCount_0f7a4 40 = .ok (.istore_n 0, 1) := by decide +kernel
theorem dJ6_bitCount_0f7a4_41 : decode cJ6_bitCount_0f7a4 41 = .ok (.iload_n 0, 1) := by decide +kernel
theorem dJ6_bitCount_0f7a4_42 : decode cJ6_bitCount_0f7a4 42 = .ok (.iload_n 0, 1) := by decide +kernel
theorem dJ6_bitCount_0f7a4_43 : decode cJ6_bitCount_0f7a4 43 = .ok (.bipush 16, 2) := by decide +kernel
theorem dJ6_bitCount_0f7a4_45 : decode cJ6_bitCount_0f7a4 45 = .ok (.iushr, 1) := by decide +kernel
theorem dJ6_bitCount_0f7a4_46 : decode cJ6_bitCount_0f7a4 46 = .ok (.iadd, 1) := by decide +kernel
theorem dJ6_bitCount_0f7a4_47 : decode cJ6_bitCount_0f7a4 47 = .ok (.istore_n 0, 1) := by decide +kernel
theorem dJ6_bitCount_0f7a4_48 : decode cJ6_bitCount_0f7a4 48 = .ok (.iload_n 0, 1) := by decide +kernel
theorem dJ6_bitCount_0f7a4_49 : decode cJ6_bitCount_0f7a4 49 = .ok (.bipush 63, 2) := by decide +kernel
theorem dJ6_bitCount_0f7a4_51 : decode cJ6_bitCount_0f7a4 51 = .ok (.iand, 1) := by decide +kernel
theorem dJ6_bitCount_0f7a4_52 : decode cJ6_bitCount_0f7a4 52 = .ok (.ireturn, 1) := by decide +kernel
theorem dJ9_floorDiv_f86c9_0 : decode cJ9_floorDiv_f86c9 0 = .ok (.lload_n 0, 1) := by decide +kernel
theorem dJ9_floorDiv_f86c9_1 : decode cJ9_floorDiv_f86c9 1 = .ok (.lload_n 2, 1) := by decide +kernel
theorem dJ9_floorDiv_f86c9_2 : decode cJ9_floorDiv_f86c9 2 = .ok (.ldiv, 1) := by decide +kernel
theorem dJ9_floorDiv_f86c9_3 : decode cJ9_floorDiv_f86c9 3 = .ok (.lstore 4, 2) := by decide +kernel
theorem dJ9_floorDiv_f86c9_5 : decode cJ9_floorDiv_f86c9 5 = .ok (.lload_n 0, 1) := by decide +kernel
theorem dJ9_floorDiv_f86c9_6 : decode cJ9_floorDiv_f86c9 6 = .ok (.lload_n 2, 1) := by decide +kernel
theorem dJ9_floorDiv_f86c9_7 : decode cJ9_floorDiv_f86c9 7 = .ok (.lxor, 1) := by decide +kernel
theorem dJ9_floorDiv_f86c9_8 : decode cJ9_floorDiv_f86c9 8 = .ok (.lconst 0, 1) := by decide +kernel
theorem dJ9_floorDiv_f86c9_9 : decode cJ9_floorDiv_f86c9 9 = .ok (.lcmp, 1) := by decide +kernel
theorem dJ9_floorDiv_f86c9_10 : decode cJ9_floorDiv_f86c9 10 = .ok (.ifCond .ge 17, 3) := by decide +kernel
theorem dJ9_floorDiv_f86c9_13 : decode cJ9_floorDiv_f86c9 13 = .ok (.lload 4, 2) := by decide +kernel
theorem dJ9_floorDiv_f86c9_15 : decode cJ9_floorDiv_f86c9 15 = .ok (.lload_n 2, 1) := by decide +kernel
theorem dJ9_floorDiv_f86c9_16 : decode cJ9_floorDiv_f86c9 16 = .ok (.lmul, 1) := by decide +kernel
theorem dJ9_floorDiv_f86c9_17 : decode cJ9_floorDiv_f86c9 17 = .ok (.lload_n 0, 1) := by decide +kernel
theorem dJ9_floorDiv_f86c9_18 : decode cJ9_floorDiv_f86c9 18 = .ok (.lcmp, 1) := by decide +kernel
theorem dJ9_floorDiv_f86c9_19 : decode cJ9_floorDiv_f86c9 19 = .ok (.ifCond .eq 8, 3) := by decide +kernel
theorem dJ9_floorDiv_f86c9_22 : decode cJ9_floorDiv_f86c9 22 = .ok (.lload 4, 2) := by decide +kernel
theorem dJ9_floorDiv_f86c9_24 : decode cJ9_floorDiv_f86c9 24 = .ok (.lconst 1, 1) := by decide +kernel
theorem dJ9_floorDiv_f86c9_25 : decode cJ9_floorDiv_f86c9 25 = .ok (.lsub, 1) := by decide +kernel
theorem dJ9_floorDiv_f86c9_26 : decode cJ9_floorDiv_f86c9 26 = .ok (.lreturn, 1) := by decide +kernel
theorem dJ9_floorDiv_f86c9_27 : decode cJ9_floorDiv_f86c9 27 = .ok (.lload 4, 2) := by decide +kernel
theorem dJ9_floorDiv_f86c9_29 : decode cJ9_floorDiv_f86c9 29 = .ok (.lreturn, 1) := by decide +kernel
theorem dJ9_abs_0f7a4_0 : decode cJ9_abs_0f7a4 0 = .ok (.iload_n 0, 1) := by decide +kernel
theorem dJ9_abs_0f7a4_1 : decode cJ9_abs_0f7a4 1 = .ok (.ifCond .ge 8, 3) := by decide +kernel
theorem dJ9_abs_0f7a4_4 : decode cJ9_abs_0f7a4 4 = .ok (.iload_n 0, 1) := by decide +kernel
theorem dJ9_abs_0f7a4_5 : decode cJ9_abs_0f7a4 5 = .ok (.ineg, 1) := by decide +kernel
theorem dJ9_abs_0f7a4_6 : decode cJ9_abs_0f7a4 6 = .ok (.goto 4, 3) := by decide +kernel
theorem dJ9_abs_0f7a4_9 : decode cJ9_abs_0f7a4 9 = .ok (.iload_n 0, 1) := by decide +kernel
theorem dJ9_abs_0f7a4_10 : decode cJ9_abs_0f7a4 10 = .ok (.ireturn, 1) := by decide +kernel
theorem dJ9_max_7cf53_0 : decode cJ9_max_7cf53 0 = .ok (.iload_n 0, 1) := by decide +kernel
theorem dJ9_max_7cf53_1 : decode cJ9_max_7cf53 1 = .ok (.iload_n 1, 1) := by decide +kernel
theorem dJ9_max_7cf53_2 : decode cJ9_max_7cf53 2 = .ok (.if_icmp .lt 7, 3) := by decide +kernel
theorem dJ9_max_7cf53_5 : decode cJ9_max_7cf53 5 = .ok (.iload_n 0, 1) := by decide +kernel
theorem dJ9_max_7cf53_6 : decode cJ9_max_7cf53 6 = .ok (.goto 4, 3) := by decide +kernel
theorem dJ9_max_7cf53_9 : decode cJ9_max_7cf53 9 = .ok (.iload_n 1, 1) := by decide +kernel
theorem dJ9_max_7cf53_10 : decode cJ9_max_7cf53 10 = .ok (.ireturn, 1) := by decide +kernel
theorem dJ9_min_7cf53_0 : decode cJ9_min_7cf53 0 = .ok (.iload_n 0, 1) := by decide +kernel
theorem dJ9_min_7cf53_1 : decode cJ9_min_7cf53 1 = .ok (.iload_n 1, 1) := by decide +kernel
theorem dJ9_min_7cf53_2 : decode cJ9_min_7cf53 2 = .ok (.if_icmp .gt 7, 3) := by decide +kernel
theorem dJ9_min_7cf53_5 : decode cJ9_min_7cf53 5 = .ok (.iload_n 0, 1) := by decide +kernel
theorem dJ9_min_7cf53_6 : decode cJ9_min_7cf53 6 = .ok (.goto 4, 3) := by decide +kernel
theorem dJ9_min_7cf53_9 : decode cJ9_min_7cf53 9 = .ok (.iload_n 1, 1) := by decide +kernel
theorem dJ9_min_7cf53_10 : decode cJ9_min_7cf53 10 = .ok (.ireturn, 1) := by decide +kernel
theorem dJ0_length_8abf5_0 : decode cJ0_length_8abf5 0 = .ok (.aload_n 0, 1) := by decide +kernel
theorem dJ0_length_8abf5_1 : decode cJ0_length_8abf5 1 = .ok (.getfield 9, 3) := by decide +kernel
theorem dJ0_length_8abf5_4 : decode cJ0_length_8abf5 4 = .ok (.arraylength, 1) := by decide +kernel
theorem dJ0_length_8abf5_5 : decode cJ0_length_8abf5 5 = .ok (.aload_n 0, 1) := by decide +kernel
theorem dJ0_length_8abf5_6 : decode cJ0_length_8abf5 6 = .ok (.invokevirtual 335, 3) := by decide +kernel
theorem dJ0_length_8abf5_9 : decode cJ0_length_8abf5 9 = .ok (.ishr, 1) := by decide +kernel
theorem dJ0_length_8abf5_10 : decode cJ0_length_8abf5 10 = .ok (.ireturn, 1) := by decide +kernel
theorem dJ0_charAt_5068e_0 : decode cJ0_charAt_5068e 0 = .ok (.aload_n 0, 1) := by decide +kernel
theorem dJ0_charAt_5068e_1 : decode cJ0_charAt_5068e 1 = .ok (.invokevirtual 492, 3) := by decide +kernel
theorem dJ0_charAt_5068e_4 : decode cJ0_charAt_5068e 4 = .ok (.ifCond .eq 12, 3) := by decide +kernel
theorem dJ0_charAt_5068e_7 : decode cJ0_charAt_5068e 7 = .ok (.aload_n 0, 1) := by decide +kernel
theorem dJ0_charAt_5068e_8 : decode cJ0_charAt_5068e 8 = .ok (.getfield 9, 3) := by decide +kernel
theorem dJ0_charAt_5068e_11 : decode cJ0_charAt_5068e 11 = .ok (.iload_n 1, 1) := by decide +kernel
theorem dJ0_charAt_5068e_12 : decode cJ0_charAt_5068e 12 = .ok (.invokestatic 495, 3) := by decide +kernel
theorem dJ0_charAt_5068e_15 : decode cJ0_charAt_5068e 15 = .ok (.ireturn, 1) := by decide +kernel
theorem dJ0_charAt_5068e_16 : decode cJ0_charAt_5068e 16 = .ok (.aload_n 0, 1) := by decide +kernel
theorem dJ0_charAt_5068e_17 : decode cJ0_charAt_5068e 17 = .ok (.getfield 9, 3) := by decide +kernel
theorem dJ0_charAt_5068e_20 : decode cJ0_charAt_5068e 20 = .ok (.iload_n 1, 1) := by decide +kernel
theorem dJ0_charAt_5068e_21 : decode cJ0_charAt_5068e 21 = .ok (.invokestatic 498, 3) := by decide +kernel
theorem dJ0_charAt_5068e_24 : decode cJ0_charAt_5068e 24 = .ok (.ireturn, 1) := by decide +kernel
theorem dJ0_coder_7d493_0 : decode cJ0_coder_7d493 0 = .ok (.getstatic 38, 3) := by decide +kernel
theorem dJ0_coder_7d493_3 : decode cJ0_coder_7d493 3 = .ok (.ifCond .eq 10, 3) := by decide +kernel
theorem dJ0_coder_7d493_6 : decode cJ0_coder_7d493 6 = .ok (.aload_n 0, 1) := by decide +kernel
theorem dJ0_coder_7d493_7 : decode cJ0_coder_7d493 7 = .ok (.getfield 15, 3) := by decide +kernel
theorem dJ0_coder_7d493_10 : decode cJ0_coder_7d493 10 = .ok (.goto 4, 3) := by decide +kernel
theorem dJ0_coder_7d493_13 : decode cJ0_coder_7d493 13 = .ok (.iconst 1, 1) := by decide +kernel
theorem dJ0_coder_7d493_14 : decode cJ0_coder_7d493 14 = .ok (.ireturn, 1) := by decide +kernel
theorem dJ0_isLatin1_aae02_0 : decode cJ0_isLatin1_aae02 0 = .ok (.getstatic 38, 3) := by decide +kernel
theorem dJ0_isLatin1_aae02_3 : decode cJ0_isLatin1_aae02 3 = .ok (.ifCond .eq 14, 3) := by decide +kernel
theorem dJ0_isLatin1_aae02_6 : decode cJ0_isLatin1_aae02 6 = .ok (.aload_n 0, 1) := by decide +kernel
theorem dJ0_isLatin1_aae02_7 : decode cJ0_isLatin1_aae02 7 = .ok (.getfield 15, 3) := by decide +kernel
theorem dJ0_isLatin1_aae02_10 : decode cJ0_isLatin1_aae02 10 = .ok (.ifCond .ne 7, 3) := by decide +kernel
theorem dJ0_isLatin1_aae02_13 : decode cJ0_isLatin1_aae02 13 = .ok (.iconst 1, 1) := by decide +kernel
theorem dJ0_isLatin1_aae02_14 : decode cJ0_isLatin1_aae02 14 = .ok (.goto 4, 3) := by decide +kernel
theorem dJ0_isLatin1_aae02_17 : decode cJ0_isLatin1_aae02 17 = .ok (.iconst 0, 1) := by decide +kernel
theorem dJ0_isLatin1_aae02_18 : decode cJ0_isLatin1_aae02 18 = .ok (.ireturn, 1) := by decide +kernel
theorem dJ0_checkIndex_df160_0 : decode cJ0_checkIndex_df160 0 = .ok (.iload_n 0, 1) := by decide +kernel
theorem dJ0_checkIndex_df160_1 : decode cJ0_checkIndex_df160 1 = .ok (.iload_n 1, 1) := by decide +kernel
theorem dJ0_checkIndex_df160_2 : decode cJ0_checkIndex_df160 2 = .ok (.getstatic 1053, 3) := by decide +kernel
theorem dJ0_checkIndex_df160_5 : decode cJ0_checkIndex_df160 5 = .ok (.invokestatic 1059, 3) := by decide +kernel
theorem dJ0_checkIndex_df160_8 : decode cJ0_checkIndex_df160 8 = .ok (.pop, 1) := by decide +kernel
theorem dJ0_checkIndex_df160_9 : decode cJ0_checkIndex_df160 9 = .ok (.return_, 1) := by decide +kernel
theorem dJ1_charAt_3b067_0 : decode cJ1_charAt_3b067 0 = .ok (.iload_n 1, 1) := by decide +kernel
theorem dJ1_charAt_3b067_1 : decode cJ1_charAt_3b067 1 = .ok (.aload_n 0, 1) := by decide +kernel
theorem dJ1_charAt_3b067_2 : decode cJ1_charAt_3b067 2 = .ok (.arraylength, 1) := by decide +kernel
theorem dJ1_charAt_3b067_3 : decode cJ1_charAt_3b067 3 = .ok (.invokestatic 9, 3) := by decide +kernel
theorem dJ1_charAt_3b067_6 : decode cJ1_charAt_3b067 6 = .ok (.aload_n 0, 1) := by decide +kernel
theorem dJ1_charAt_3b067_7 : decode cJ1_charAt_3b067 7 = .ok (.iload_n 1, 1) := by decide +kernel
theorem dJ1_charAt_3b067_8 : decode cJ1_charAt_3b067 8 = .ok (.baload, 1) := by decide +kernel
theorem dJ1_charAt_3b067_9 : decode cJ1_charAt_3b067 9 = .ok (.sipush 255, 3) := by decide +kernel
theorem dJ1_charAt_3b067_12 : decode cJ1_charAt_3b067 12 = .ok (.iand, 1) := by decide +kernel
theorem dJ1_charAt_3b067_13 : decode cJ1_charAt_3b067 13 = .ok (.i2c, 1) := by decide +kernel
theorem dJ1_charAt_3b067_14 : decode cJ1_charAt_3b067 14 = .ok (.ireturn, 1) := by decide +kernel
theorem dJ2_getChar_3b067_0 : decode cJ2_getChar_3b067 0 = .ok (.getstatic 44, 3) := by decide +kernel
theorem dJ2_getChar_3b067_3 : decode cJ2_getChar_3b067 3 = .ok (.ifCond .ne 25, 3) := by decide +kernel
theorem dJ2_getChar_3b067_6 : decode cJ2_getChar_3b067 6 = .ok (.iload_n 1, 1) := by decide +kernel
theorem dJ2_getChar_3b067_7 : decode cJ2_getChar_3b067 7 = .ok (.ifCond .lt 11, 3) := by decide +kernel
theorem dJ2_getChar_3b067_10 : decode cJ2_getChar_3b067 10 = .ok (.iload_n 1, 1) := by decide +kernel
theorem dJ2_getChar_3b067_11 : decode cJ2_getChar_3b067 11 = .ok (.aload_n 0, 1) := by decide +kernel
theorem dJ2_getChar_3b067_12 : decode cJ2_getChar_3b067 12 = .ok (.invokestatic 48, 3) := by decide +kernel
theorem dJ2_getChar_3b067_15 : decode cJ2_getChar_3b067 15 = .ok (.if_icmp .lt 13, 3) := by decide +kernel
theorem dJ2_getChar_3b067_18 : decode cJ2_getChar_3b067 18 = .ok (.new 52, 3) := by decide +kernel
theorem dJ2_getChar_3b067_21 : decode cJ2_getChar_3b067 21 = .ok (.dup, 1) := by decide +kernel
theorem dJ2_getChar_3b067_22 : decode cJ2_getChar_3b067 22 = .ok (.ldc 54, 2) := by decide +kernel
theorem dJ2_getChar_3b067_24 : decode cJ2_getChar_3b067 24 = .ok (.invokespecial 56, 3) := by decide +kernel
theorem dJ2_getChar_3b067_27 : decode cJ2_getChar_3b067 27 = .ok (.athrow, 1) := by decide +kernel
theorem dJ2_getChar_3b067_28 : decode cJ2_getChar_3b067 28 = .ok (.iload_n 1, 1) := by decide +kernel
theorem dJ2_getChar_3b067_29 : decode cJ2_getChar_3b067 29 = .ok (.iconst 1, 1) := by decide +kernel
theorem dJ2_getChar_3b067_30 : decode cJ2_getChar_3b067 30 = .ok (.ishl, 1) := by decide +kernel
theorem dJ2_getChar_3b067_31 : decode cJ2_getChar_3b067 31 = .ok (.istore_n 1, 1) := by decide +kernel
theorem dJ2_getChar_3b067_32 : decode cJ2_getChar_3b067 32 = .ok (.aload_n 0, 1) := by decide +kernel
theorem dJ2_getChar_3b067_33 : decode cJ2_getChar_3b067 33 = .ok (.iload_n 1, 1) := by decide +kernel
theorem dJ2_getChar_3b067_34 : decode cJ2_getChar_3b067 34 = .ok (.iinc 1 1, 3) := by decide +kernel
theorem dJ2_getChar_3b067_37 : decode cJ2_getChar_3b067 37 = .ok (.baload, 1) := by decide +kernel
theorem dJ2_getChar_3b067_38 : decode cJ2_getChar_3b067 38 = .ok (.sipush 255, 3) := by decide +kernel
theorem dJ2_getChar_3b067_41 : decode cJ2_getChar_3b067 41 = .ok (.iand, 1) := by decide +kernel
theorem dJ2_getChar_3b067_42 : decode cJ2_getChar_3b067 42 = .ok (.getstatic 59, 3) := by decide +kernel
theorem dJ2_getChar_3b067_45 : decode cJ2_getChar_3b067 45 = .ok (.ishl, 1) := by decide +kernel
theorem dJ2_getChar_3b067_46 : decode cJ2_getChar_3b067 46 = .ok (.aload_n 0, 1) := by decide +kernel
theorem dJ2_getChar_3b067_47 : decode cJ2_getChar_3b067 47 = .ok (.iload_n 1, 1) := by decide +kernel
theorem dJ2_getChar_3b067_48 : decode cJ2_getChar_3b067 48 = .ok (.baload, 1) := by decide +kernel
theorem dJ2_getChar_3b067_49 : decode cJ2_getChar_3b067 49 = .ok (.sipush 255, 3) := by decide +kernel
theorem dJ2_getChar_3b067_52 : decode cJ2_getChar_3b067 52 = .ok (.iand, 1) := by decide +kernel
theorem dJ2_getChar_3b067_53 : decode cJ2_getChar_3b067 53 = .ok (.getstatic 63, 3) := by decide +kernel
theorem dJ2_getChar_3b067_56 : decode cJ2_getChar_3b067 56 = .ok (.ishl, 1) := by decide +kernel
theorem dJ2_getChar_3b067_57 : decode cJ2_getChar_3b067 57 = .ok (.ior, 1) := by decide +kernel
theorem dJ2_getChar_3b067_58 : decode cJ2_getChar_3b067 58 = .ok (.i2c, 1) := by decide +kernel
theorem dJ2_getChar_3b067_59 : decode cJ2_getChar_3b067 59 = .ok (.ireturn, 1) := by decide +kernel
theorem dJ2_length_9d52b_0 : decode cJ2_length_9d52b 0 = .ok (.aload_n 0, 1) := by decide +kernel
theorem dJ2_length_9d52b_1 : decode cJ2_length_9d52b 1 = .ok (.arraylength, 1) := by decide +kernel
theorem dJ2_length_9d52b_2 : decode cJ2_length_9d52b 2 = .ok (.iconst 1, 1) := by decide +kernel
theorem dJ2_length_9d52b_3 : decode cJ2_length_9d52b 3 = .ok (.ishr, 1) := by decide +kernel
theorem dJ2_length_9d52b_4 : decode cJ2_length_9d52b 4 = .ok (.ireturn, 1) := by decide +kernel
theorem dJ2_charAt_3b067_0 : decode cJ2_charAt_3b067 0 = .ok (.iload_n 1, 1) := by decide +kernel
theorem dJ2_charAt_3b067_1 : decode cJ2_charAt_3b067 1 = .ok (.aload_n 0, 1) := by decide +kernel
theorem dJ2_charAt_3b067_2 : decode cJ2_charAt_3b067 2 = .ok (.invokestatic 67, 3) := by decide +kernel
theorem dJ2_charAt_3b067_5 : decode cJ2_charAt_3b067 5 = .ok (.aload_n 0, 1) := by decide +kernel
theorem dJ2_charAt_3b067_6 : decode cJ2_charAt_3b067 6 = .ok (.iload_n 1, 1) := by decide +kernel
theorem dJ2_charAt_3b067_7 : decode cJ2_charAt_3b067 7 = .ok (.invokestatic 71, 3) := by decide +kernel
theorem dJ2_charAt_3b067_10 : decode cJ2_charAt_3b067 10 = .ok (.ireturn, 1) := by decide +kernel
theorem dJ2_checkIndex_2214a_0 : decode cJ2_checkIndex_2214a 0 = .ok (.iload_n 0, 1) := by decide +kernel
theorem dJ2_checkIndex_2214a_1 : decode cJ2_checkIndex_2214a 1 = .ok (.aload_n 1, 1) := by decide +kernel
theorem dJ2_checkIndex_2214a_2 : decode cJ2_checkIndex_2214a 2 = .ok (.invokestatic 48, 3) := by decide +kernel
theorem dJ2_checkIndex_2214a_5 : decode cJ2_checkIndex_2214a 5 = .ok (.invokestatic 414, 3) := by decide +kernel
theorem dJ2_checkIndex_2214a_8 : decode cJ2_checkIndex_2214a 8 = .ok (.return_, 1) := by decide +kernel
theorem dJ3_checkIndex_8e157_0 : decode cJ3_checkIndex_8e157 0 = .ok (.iload_n 0, 1) := by decide +kernel
theorem dJ3_checkIndex_8e157_1 : decode cJ3_checkIndex_8e157 1 = .ok (.ifCond .lt 8, 3) := by decide +kernel
theorem dJ3_checkIndex_8e157_4 : decode cJ3_checkIndex_8e157 4 = .ok (.iload_n 0, 1) := by decide +kernel
theorem dJ3_checkIndex_8e157_5 : decode cJ3_checkIndex_8e157 5 = .ok (.iload_n 1, 1) := by decide +kernel
theorem dJ3_checkIndex_8e157_6 : decode cJ3_checkIndex_8e157 6 = .ok (.if_icmp .lt 10, 3) := by decide +kernel
theorem dJ3_checkIndex_8e157_9 : decode cJ3_checkIndex_8e157 9 = .ok (.aload_n 2, 1) := by decide +kernel
theorem dJ3_checkIndex_8e157_10 : decode cJ3_checkIndex_8e157 10 = .ok (.iload_n 0, 1) := by decide +kernel
theorem dJ3_checkIndex_8e157_11 : decode cJ3_checkIndex_8e157 11 = .ok (.iload_n 1, 1) := by decide +kernel
theorem dJ3_checkIndex_8e157_12 : decode cJ3_checkIndex_8e157 12 = .ok (.invokestatic 95, 3) := by decide +kernel
theorem dJ3_checkIndex_8e157_15 : decode cJ3_checkIndex_8e157 15 = .ok (.athrow, 1) := by decide +kernel
theorem dJ3_checkIndex_8e157_16 : decode cJ3_checkIndex_8e157 16 = .ok (.iload_n 0, 1) := by decide +kernel
theorem dJ3_checkIndex_8e157_17 : decode cJ3_checkIndex_8e157 17 = .ok (.ireturn, 1) := by decide +kernel
theorem dL_trader_0 : decode cL_trader 0 = .ok (.aload_n 3, 1) := by decide +kernel
theorem dL_trader_1 : decode cL_trader 1 = .ok (.iconst 0, 1) := by decide +kernel
theorem dL_trader_2 : decode cL_trader 2 = .ok (.aload_n 0, 1) := by decide +kernel
theorem dL_trader_3 : decode cL_trader 3 = .ok (.iload_n 1, 1) := by decide +kernel
theorem dL_trader_4 : decode cL_trader 4 = .ok (.iload_n 2, 1) := by decide +kernel
theorem dL_trader_5 : decode cL_trader 5 = .ok (.invokevirtual 7, 3) := by decide +kernel
theorem dL_trader_8 : decode cL_trader 8 = .ok (.i2l, 1) := by decide +kernel
theorem dL_trader_9 : decode cL_trader 9 = .ok (.lastore, 1) := by decide +kernel
theorem dL_trader_10 : decode cL_trader 10 = .ok (.goto 11, 3) := by decide +kernel
theorem dL_trader_13 : decode cL_trader 13 = .ok (.astore 4, 2) := by decide +kernel
theorem dL_trader_15 : decode cL_trader 15 = .ok (.iconst 1, 1) := by decide +kernel
theorem dL_trader_16 : decode cL_trader 16 = .ok (.ireturn, 1) := by decide +kernel
theorem dL_trader_17 : decode cL_trader 17 = .ok (.astore 4, 2) := by decide +kernel
theorem dL_trader_19 : decode cL_trader 19 = .ok (.iconst 2, 1) := by decide +kernel
theorem dL_trader_20 : decode cL_trader 20 = .ok (.ireturn, 1) := by decide +kernel
theorem dL_trader_21 : decode cL_trader 21 = .ok (.iconst 0, 1) := by decide +kernel
theorem dL_trader_22 : decode cL_trader 22 = .ok (.ireturn, 1) := by decide +kernel
theorem dL_law_0 : decode cL_law 0 = .ok (.new 8, 3) := by decide +kernel
theorem dL_law_3 : decode cL_law 3 = .ok (.dup, 1) := by decide +kernel
theorem dL_law_4 : decode cL_law 4 = .ok (.invokespecial 17, 3) := by decide +kernel
theorem dL_law_7 : decode cL_law 7 = .ok (.astore_n 1, 1) := by decide +kernel
theorem dL_law_8 : decode cL_law 8 = .ok (.new 18, 3) := by decide +kernel
theorem dL_law_11 : decode cL_law 11 = .ok (.dup, 1) := by decide +kernel
theorem dL_law_12 : decode cL_law 12 = .ok (.invokespecial 20, 3) := by decide +kernel
theorem dL_law_15 : decode cL_law 15 = .ok (.astore_n 2, 1) := by decide +kernel
theorem dL_law_16 : decode cL_law 16 = .ok (.iconst 1, 1) := by decide +kernel
theorem dL_law_17 : decode cL_law 17 = .ok (.newarray .long, 2) := by decide +kernel
theorem dL_law_19 : decode cL_law 19 = .ok (.astore_n 3, 1) := by decide +kernel
theorem dL_law_20 : decode cL_law 20 = .ok (.iconst 0, 1) := by decide +kernel
theorem dL_law_21 : decode cL_law 21 = .ok (.istore 4, 2) := by decide +kernel
theorem dL_law_23 : decode cL_law 23 = .ok (.iload 4, 2) := by decide +kernel
theorem dL_law_25 : decode cL_law 25 = .ok (.aload_n 0, 1) := by decide +kernel
theorem dL_law_26 : decode cL_law 26 = .ok (.arraylength, 1) := by decide +kernel
theorem dL_law_27 : decode cL_law 27 = .ok (.bipush 6, 2) := by decide +kernel
theorem dL_law_29 : decode cL_law 29 = .ok (.isub, 1) := by decide +kernel
theorem dL_law_30 : decode cL_law 30 = .ok (.if_icmp .gt 2067, 3) := by decide +kernel
theorem dL_law_33 : decode cL_law 33 = .ok (.aload_n 0, 1) := by decide +kernel
theorem dL_law_34 : decode cL_law 34 = .ok (.iload 4, 2) := by decide +kernel
theorem dL_law_36 : decode cL_law 36 = .ok (.iaload, 1) := by decide +kernel
theorem dL_law_37 : decode cL_law 37 = .ok (.bipush 63, 2) := by decide +kernel
theorem dL_law_39 : decode cL_law 39 = .ok (.iand, 1) := by decide +kernel
theorem dL_law_40 : decode cL_law 40 = .ok (.tableswitch 2051 0 47 #[208, 281, 306, 331, 356, 424, 461, 510, 559, 620, 669, 730, 767, 816, 853, 878, 927, 964, 1001, 1050, 1099, 1124, 1149, 1186, 1223, 1296, 1333, 1370, 1419, 1456, 1505, 1530, 1555, 1592, 1629, 1666, 1703, 1740, 1777, 1802, 1839, 1864, 1913, 1962, 1987, 2000, 2013, 2026], 208) := by decide +kernel
theorem dL_law_248 : decode cL_law 248 = .ok (.aload_n 1, 1) := by decide +kernel
theorem dL_law_249 : decode cL_law 249 = .ok (.aload_n 0, 1) := by decide +kernel
theorem dL_law_250 : decode cL_law 250 = .ok (.iload 4, 2) := by decide +kernel
theorem dL_law_252 : decode cL_law 252 = .ok (.iconst 1, 1) := by decide +kernel
theorem dL_law_253 : decode cL_law 253 = .ok (.iadd, 1) := by decide +kernel
theorem dL_law_254 : decode cL_law 254 = .ok (.iaload, 1) := by decide +kernel
theorem dL_law_255 : decode cL_law 255 = .ok (.aload_n 0, 1) := by decide +kernel
theorem dL_law_256 : decode cL_law 256 = .ok (.iload 4, 2) := by decide +kernel
theorem dL_law_258 : decode cL_law 258 = .ok (.iconst 2, 1) := by decide +kernel
theorem dL_law_259 : decode cL_law 259 = .ok (.iadd, 1) := by decide +kernel
theorem dL_law_260 : decode cL_law 260 = .ok (.iaload, 1) := by decide +kernel
theorem dL_law_261 : decode cL_law 261 = .ok (.aload_n 0, 1) := by decide +kernel
theorem dL_law_262 : decode cL_law 262 = .ok (.iload 4, 2) := by decide +kernel
theorem dL_law_264 : decode cL_law 264 = .ok (.iconst 3, 1) := by decide +kernel
theorem dL_law_265 : decode cL_law 265 = .ok (.iadd, 1) := by decide +kernel
theorem dL_law_266 : decode cL_law 266 = .ok (.iaload, 1) := by decide +kernel
theorem dL_law_267 : decode cL_law 267 = .ok (.aload_n 0, 1) := by decide +kernel
theorem dL_law_268 : decode cL_law 268 = .ok (.iload 4, 2) := by decide +kernel
theorem dL_law_270 : decode cL_law 270 = .ok (.iconst 4, 1) := by decide +kernel
theorem dL_law_271 : decode cL_law 271 = .ok (.iadd, 1) := by decide +kernel
theorem dL_law_272 : decode cL_law 272 = .ok (.iaload, 1) := by decide +kernel
theorem dL_law_273 : decode cL_law 273 = .ok (.aload_n 0, 1) := by decide +kernel
theorem dL_law_274 : decode cL_law 274 = .ok (.iload 4, 2) := by decide +kernel
theorem dL_law_276 : decode cL_law 276 = .ok (.iconst 5, 1) := by decide +kernel
theorem dL_law_277 : decode cL_law 277 = .ok (.iadd, 1) := by decide +kernel
theorem dL_law_278 : decode cL_law 278 = .ok (.iaload, 1) := by decide +kernel
theorem dL_law_279 : decode cL_law 279 = .ok (.invokevirtual 21, 3) := by decide +kernel
theorem dL_law_282 : decode cL_law 282 = .ok (.aload_n 2, 1) := by decide +kernel
theorem dL_law_283 : decode cL_law 283 = .ok (.aload_n 0, 1) := by decide +kernel
theorem dL_law_284 : decode cL_law 284 = .ok (.iload 4, 2) := by decide +kernel
theorem dL_law_286 : decode cL_law 286 = .ok (.iconst 1, 1) := by decide +kernel
theorem dL_law_287 : decode cL_law 287 = .ok (.iadd, 1) := by decide +kernel
theorem dL_law_288 : decode cL_law 288 = .ok (.iaload, 1) := by decide +kernel
theorem dL_law_289 : decode cL_law 289 = .ok (.aload_n 0, 1) := by decide +kernel
theorem dL_law_290 : decode cL_law 290 = .ok (.iload 4, 2) := by decide +kernel
theorem dL_law_292 : decode cL_law 292 = .ok (.iconst 2, 1) := by decide +kernel
theorem dL_law_293 : decode cL_law 293 = .ok (.iadd, 1) := by decide +kernel
theorem dL_law_294 : decode cL_law 294 = .ok (.iaload, 1) := by decide +kernel
theorem dL_law_295 : decode cL_law 295 = .ok (.aload_n 0, 1) := by decide +kernel
theorem dL_law_296 : decode cL_law 296 = .ok (.iload 4, 2) := by decide +kernel
theorem dL_law_298 : decode cL_law 298 = .ok (.iconst 3, 1) := by decide +kernel
theorem dL_law_299 : decode cL_law 299 = .ok (.iadd, 1) := by decide +kernel
theorem dL_law_300 : decode cL_law 300 = .ok (.iaload, 1) := by decide +kernel
theorem dL_law_301 : decode cL_law 301 = .ok (.aload_n 0, 1) := by decide +kernel
theorem dL_law_302 : decode cL_law 302 = .ok (.iload 4, 2) := by decide +kernel
theorem dL_law_304 : decode cL_law 304 = .ok (.iconst 4, 1) := by decide +kernel
theorem dL_law_305 : decode cL_law 305 = .ok (.iadd, 1) := by decide +kernel
theorem dL_law_306 : decode cL_law 306 = .ok (.iaload, 1) := by decide +kernel
theorem dL_law_307 : decode cL_law 307 = .ok (.aload_n 0, 1) := by decide +kernel
theorem dL_law_308 : decode cL_law 308 = .ok (.iload 4, 2) := by decide +kernel
theorem dL_law_310 : decode cL_law 310 = .ok (.iconst 5, 1) := by decide +kernel
theorem dL_law_311 : decode cL_law 311 = .ok (.iadd, 1) := by decide +kernel
theorem dL_law_312 : decode cL_law 312 = .ok (.iaload, 1) := by decide +kernel
theorem dL_law_313 : decode cL_law 313 = .ok (.invokevirtual 25, 3) := by decide +kernel
theorem dL_law_316 : decode cL_law 316 = .ok (.if_icmp .eq 1775, 3) := by decide +kernel
theorem dL_law_319 : decode cL_law 319 = .ok (.iconst 0, 1) := by decide +kernel
theorem dL_law_320 : decode cL_law 320 = .ok (.ireturn, 1) := by decide +kernel
theorem dL_law_321 : decode cL_law 321 = .ok (.aload_n 1, 1) := by decide +kernel
theorem dL_law_322 : decode cL_law 322 = .ok (.aload_n 0, 1) := by decide +kernel
theorem dL_law_323 : decode cL_law 323 = .ok (.iload 4, 2) := by decide +kernel
theorem dL_law_325 : decode cL_law 325 = .ok (.iconst 1, 1) := by decide +kernel
theorem dL_law_326 : decode cL_law 326 = .ok (.iadd, 1) := by decide +kernel
theorem dL_law_327 : decode cL_law 327 = .ok (.iaload, 1) := by decide +kernel
theorem dL_law_328 : decode cL_law 328 = .ok (.invokevirtual 26, 3) := by decide +kernel
theorem dL_law_331 : decode cL_law 331 = .ok (.aload_n 2, 1) := by decide +kernel
theorem dL_law_332 : decode cL_law 332 = .ok (.aload_n 0, 1) := by decide +kernel
theorem dL_law_333 : decode cL_law 333 = .ok (.iload 4, 2) := by decide +kernel
theorem dL_law_335 : decode cL_law 335 = .ok (.iconst 1, 1) := by decide +kernel
theorem dL_law_336 : decode cL_law 336 = .ok (.iadd, 1) := by decide +kernel
theorem dL_law_337 : decode cL_law 337 = .ok (.iaload, 1) := by decide +kernel
theorem dL_law_338 : decode cL_law 338 = .ok (.invokevirtual 30, 3) := by decide +kernel
theorem dL_law_341 : decode cL_law 341 = .ok (.if_icmp .eq 1750, 3) := by decide +kernel
theorem dL_law_344 : decode cL_law 344 = .ok (.iconst 0, 1) := by decide +kernel
theorem dL_law_345 : decode cL_law 345 = .ok (.ireturn, 1) := by decide +kernel
theorem dL_law_346 : decode cL_law 346 = .ok (.aload_n 1, 1) := by decide +kernel
theorem dL_law_347 : decode cL_law 347 = .ok (.aload_n 0, 1) := by decide +kernel
theorem dL_law_348 : decode cL_law 348 = .ok (.iload 4, 2) := by decide +kernel
theorem dL_law_350 : decode cL_law 350 = .ok (.iconst 1, 1) := by decide +kernel
theorem dL_law_351 : decode cL_law 351 = .ok (.iadd, 1) := by decide +kernel
theorem dL_law_352 : decode cL_law 352 = .ok (.iaload, 1) := by decide +kernel
theorem dL_law_353 : decode cL_law 353 = .ok (.invokevirtual 31, 3) := by decide +kernel
theorem dL_law_356 : decode cL_law 356 = .ok (.aload_n 2, 1) := by decide +kernel
theorem dL_law_357 : decode cL_law 357 = .ok (.aload_n 0, 1) := by decide +kernel
theorem dL_law_358 : decode cL_law 358 = .ok (.iload 4, 2) := by decide +kernel
theorem dL_law_360 : decode cL_law 360 = .ok (.iconst 1, 1) := by decide +kernel
theorem dL_law_361 : decode cL_law 361 = .ok (.iadd, 1) := by decide +kernel
theorem dL_law_362 : decode cL_law 362 = .ok (.iaload, 1) := by decide +kernel
theorem dL_law_363 : decode cL_law 363 = .ok (.invokevirtual 34, 3) := by decide +kernel
theorem dL_law_366 : decode cL_law 366 = .ok (.if_icmp .eq 1725, 3) := by decide +kernel
theorem dL_law_369 : decode cL_law 369 = .ok (.iconst 0, 1) := by decide +kernel
theorem dL_law_370 : decode cL_law 370 = .ok (.ireturn, 1) := by decide +kernel
theorem dL_law_371 : decode cL_law 371 = .ok (.aload_n 1, 1) := by decide +kernel
theorem dL_law_372 : decode cL_law 372 = .ok (.aload_n 0, 1) := by decide +kernel
theorem dL_law_373 : decode cL_law 373 = .ok (.iload 4, 2) := by decide +kernel
theorem dL_law_375 : decode cL_law 375 = .ok (.iconst 1, 1) := by decide +kernel
theorem dL_law_376 : decode cL_law 376 = .ok (.iadd, 1) := by decide +kernel
theorem dL_law_377 : decode cL_law 377 = .ok (.iaload, 1) := by decide +kernel
theorem dL_law_378 : decode cL_law 378 = .ok (.invokevirtual 35, 3) := by decide +kernel
theorem dL_law_381 : decode cL_law 381 = .ok (.aload_n 2, 1) := by decide +kernel
theorem dL_law_382 : decode cL_law 382 = .ok (.aload_n 0, 1) := by decide +kernel
theorem dL_law_383 : decode cL_law 383 = .ok (.iload 4, 2) := by decide +kernel
theorem dL_law_385 : decode cL_law 385 = .ok (.iconst 1, 1) := by decide +kernel
theorem dL_law_386 : decode cL_law 386 = .ok (.iadd, 1) := by decide +kernel
theorem dL_law_387 : decode cL_law 387 = .ok (.iaload, 1) := by decide +kernel
theorem dL_law_388 : decode cL_law 388 = .ok (.invokevirtual 38, 3) := by decide +kernel
theorem dL_law_391 : decode cL_law 391 = .ok (.if_icmp .eq 1700, 3) := by decide +kernel
theorem dL_law_394 : decode cL_law 394 = .ok (.iconst 0, 1) := by decide +kernel
theorem dL_law_395 : decode cL_law 395 = .ok (.ireturn, 1) := by decide +kernel
theorem dL_law_396 : decode cL_law 396 = .ok (.aload_n 1, 1) := by decide +kernel
theorem dL_law_397 : decode cL_law 397 = .ok (.aload_n 0, 1) := by decide +kernel
theorem dL_law_398 : decode cL_law 398 = .ok (.iload 4, 2) := by decide +kernel
theorem dL_law_400 : decode cL_law 400 = .ok (.iconst 1, 1) := by decide +kernel
theorem dL_law_401 : decode cL_law 401 = .ok (.iadd, 1) := by decide +kernel
theorem dL_law_402 : decode cL_law 402 = .ok (.iaload, 1) := by decide +kernel
theorem dL_law_403 : decode cL_law 403 = .ok (.aload_n 0, 1) := by decide +kernel
theorem dL_law_404 : decode cL_law 404 = .ok (.iload 4, 2) := by decide +kernel
theorem dL_law_406 : decode cL_law 406 = .ok (.iconst 2, 1) := by decide +kernel
theorem dL_law_407 : decode cL_law 407 = .ok (.iadd, 1) := by decide +kernel
theorem dL_law_408 : decode cL_law 408 = .ok (.iaload, 1) := by decide +kernel
theorem dL_law_409 : decode cL_law 409 = .ok (.aload_n 3, 1) := by decide +kernel
theorem dL_law_410 : decode cL_law 410 = .ok (.invokestatic 39, 3) := by decide +kernel
theorem dL_law_413 : decode cL_law 413 = .ok (.istore 5, 2) := by decide +kernel
theorem dL_law_415 : decode cL_law 415 = .ok (.aload_n 2, 1) := by decide +kernel
theorem dL_law_416 : decode cL_law 416 = .ok (.aload_n 0, 1) := by decide +kernel
theorem dL_law_417 : decode cL_law 417 = .ok (.iload 4, 2) := by decide +kernel
theorem dL_law_419 : decode cL_law 419 = .ok (.iconst 1, 1) := by decide +kernel
theorem dL_law_420 : decode cL_law 420 = .ok (.iadd, 1) := by decide +kernel
theorem dL_law_421 : decode cL_law 421 = .ok (.iaload, 1) := by decide +kernel
theorem dL_law_422 : decode cL_law 422 = .ok (.aload_n 0, 1) := by decide +kernel
theorem dL_law_423 : decode cL_law 423 = .ok (.iload 4, 2) := by decide +kernel
theorem dL_law_425 : decode cL_law 425 = .ok (.iconst 2, 1) := by decide +kernel
theorem dL_law_426 : decode cL_law 426 = .ok (.iadd, 1) := by decide +kernel
theorem dL_law_427 : decode cL_law 427 = .ok (.iaload, 1) := by decide +kernel
theorem dL_law_428 : decode cL_law 428 = .ok (.invokevirtual 44, 3) := by decide +kernel
theorem dL_law_431 : decode cL_law 431 = .ok (.istore 6, 2) := by decide +kernel
theorem dL_law_433 : decode cL_law 433 = .ok (.aload_n 2, 1) := by decide +kernel
theorem dL_law_434 : decode cL_law 434 = .ok (.invokevirtual 45, 3) := by decide +kernel
theorem dL_law_437 : decode cL_law 437 = .ok (.iload 5, 2) := by decide +kernel
theorem dL_law_439 : decode cL_law 439 = .ok (.if_icmp .eq 5, 3) := by decide +kernel
theorem dL_law_442 : decode cL_law 442 = .ok (.iconst 0, 1) := by decide +kernel
theorem dL_law_443 : decode cL_law 443 = .ok (.ireturn, 1) := by decide +kernel
theorem dL_law_444 : decode cL_law 444 = .ok (.iload 5, 2) := by decide +kernel
theorem dL_law_446 : decode cL_law 446 = .ok (.ifCond .ne 15, 3) := by decide +kernel
theorem dL_law_449 : decode cL_law 449 = .ok (.aload_n 3, 1) := by decide +kernel
theorem dL_law_450 : decode cL_law 450 = .ok (.iconst 0, 1) := by decide +kernel
theorem dL_law_451 : decode cL_law 451 = .ok (.laload, 1) := by decide +kernel
theorem dL_law_452 : decode cL_law 452 = .ok (.iload 6, 2) := by decide +kernel
theorem dL_law_454 : decode cL_law 454 = .ok (.i2l, 1) := by decide +kernel
theorem dL_law_455 : decode cL_law 455 = .ok (.lcmp, 1) := by decide +kernel
theorem dL_law_456 : decode cL_law 456 = .ok (.ifCond .eq 5, 3) := by decide +kernel
theorem dL_law_459 : decode cL_law 459 = .ok (.iconst 0, 1) := by decide +kernel
theorem dL_law_460 : decode cL_law 460 = .ok (.ireturn, 1) := by decide +kernel
theorem dL_law_461 : decode cL_law 461 = .ok (.goto 1630, 3) := by decide +kernel
theorem dL_law_464 : decode cL_law 464 = .ok (.aload_n 1, 1) := by decide +kernel
theorem dL_law_465 : decode cL_law 465 = .ok (.aload_n 0, 1) := by decide +kernel
theorem dL_law_466 : decode cL_law 466 = .ok (.iload 4, 2) := by decide +kernel
theorem dL_law_468 : decode cL_law 468 = .ok (.iconst 1, 1) := by decide +kernel
theorem dL_law_469 : decode cL_law 469 = .ok (.iadd, 1) := by decide +kernel
theorem dL_law_470 : decode cL_law 470 = .ok (.iaload, 1) := by decide +kernel
theorem dL_law_471 : decode cL_law 471 = .ok (.aload_n 0, 1) := by decide +kernel
theorem dL_law_472 : decode cL_law 472 = .ok (.iload 4, 2) := by decide +kernel
theorem dL_law_474 : decode cL_law 474 = .ok (.iconst 2, 1) := by decide +kernel
theorem dL_law_475 : decode cL_law 475 = .ok (.iadd, 1) := by decide +kernel
theorem dL_law_476 : decode cL_law 476 = .ok (.iaload, 1) := by decide +kernel
theorem dL_law_477 : decode cL_law 477 = .ok (.invokevirtual 49, 3) := by decide +kernel
theorem dL_law_480 : decode cL_law 480 = .ok (.aload_n 2, 1) := by decide +kernel
theorem dL_law_481 : decode cL_law 481 = .ok (.aload_n 0, 1) := by decide +kernel
theorem dL_law_482 : decode cL_law 482 = .ok (.iload 4, 2) := by decide +kernel
theorem dL_law_484 : decode cL_law 484 = .ok (.iconst 1, 1) := by decide +kernel
theorem dL_law_485 : decode cL_law 485 = .ok (.iadd, 1) := by decide +kernel
theorem dL_law_486 : decode cL_law 486 = .ok (.iaload, 1) := by decide +kernel
theorem dL_law_487 : decode cL_law 487 = .ok (.aload_n 0, 1) := by decide +kernel
theorem dL_law_488 : decode cL_law 488 = .ok (.iload 4, 2) := by decide +kernel
theorem dL_law_490 : decode cL_law 490 = .ok (.iconst 2, 1) := by decide +kernel
theorem dL_law_491 : decode cL_law 491 = .ok (.iadd, 1) := by decide +kernel
theorem dL_law_492 : decode cL_law 492 = .ok (.iaload, 1) := by decide +kernel
theorem dL_law_493 : decode cL_law 493 = .ok (.invokevirtual 52, 3) := by decide +kernel
theorem dL_law_496 : decode cL_law 496 = .ok (.if_icmp .eq 1595, 3) := by decide +kernel
theorem dL_law_499 : decode cL_law 499 = .ok (.iconst 0, 1) := by decide +kernel
theorem dL_law_500 : decode cL_law 500 = .ok (.ireturn, 1) := by decide +kernel
theorem dL_law_501 : decode cL_law 501 = .ok (.aload_n 1, 1) := by decide +kernel
theorem dL_law_502 : decode cL_law 502 = .ok (.aload_n 0, 1) := by decide +kernel
theorem dL_law_503 : decode cL_law 503 = .ok (.iload 4, 2) := by decide +kernel
theorem dL_law_505 : decode cL_law 505 = .ok (.iconst 1, 1) := by decide +kernel
theorem dL_law_506 : decode cL_law 506 = .ok (.iadd, 1) := by decide +kernel
theorem dL_law_507 : decode cL_law 507 = .ok (.iaload, 1) := by decide +kernel
theorem dL_law_508 : decode cL_law 508 = .ok (.aload_n 0, 1) := by decide +kernel
theorem dL_law_509 : decode cL_law 509 = .ok (.iload 4, 2) := by decide +kernel
theorem dL_law_511 : decode cL_law 511 = .ok (.iconst 2, 1) := by decide +kernel
theorem dL_law_512 : decode cL_law 512 = .ok (.iadd, 1) := by decide +kernel
theorem dL_law_513 : decode cL_law 513 = .ok (.iaload, 1) := by decide +kernel
theorem dL_law_514 : decode cL_law 514 = .ok (.aload_n 0, 1) := by decide +kernel
theorem dL_law_515 : decode cL_law 515 = .ok (.iload 4, 2) := by decide +kernel
theorem dL_law_517 : decode cL_law 517 = .ok (.iconst 3, 1) := by decide +kernel
theorem dL_law_518 : decode cL_law 518 = .ok (.iadd, 1) := by decide +kernel
theorem dL_law_519 : decode cL_law 519 = .ok (.iaload, 1) := by decide +kernel
theorem dL_law_520 : decode cL_law 520 = .ok (.invokevirtual 53, 3) := by decide +kernel
theorem dL_law_523 : decode cL_law 523 = .ok (.aload_n 2, 1) := by decide +kernel
theorem dL_law_524 : decode cL_law 524 = .ok (.aload_n 0, 1) := by decide +kernel
theorem dL_law_525 : decode cL_law 525 = .ok (.iload 4, 2) := by decide +kernel
theorem dL_law_527 : decode cL_law 527 = .ok (.iconst 1, 1) := by decide +kernel
theorem dL_law_528 : decode cL_law 528 = .ok (.iadd, 1) := by decide +kernel
theorem dL_law_529 : decode cL_law 529 = .ok (.iaload, 1) := by decide +kernel
theorem dL_law_530 : decode cL_law 530 = .ok (.aload_n 0, 1) := by decide +kernel
theorem dL_law_531 : decode cL_law 531 = .ok (.iload 4, 2) := by decide +kernel
theorem dL_law_533 : decode cL_law 533 = .ok (.iconst 2, 1) := by decide +kernel
theorem dL_law_534 : decode cL_law 534 = .ok (.iadd, 1) := by decide +kernel
theorem dL_law_535 : decode cL_law 535 = .ok (.iaload, 1) := by decide +kernel
theorem dL_law_536 : decode cL_law 536 = .ok (.aload_n 0, 1) := by decide +kernel
theorem dL_law_537 : decode cL_law 537 = .ok (.iload 4, 2) := by decide +kernel
theorem dL_law_539 : decode cL_law 539 = .ok (.iconst 3, 1) := by decide +kernel
theorem dL_law_540 : decode cL_law 540 = .ok (.iadd, 1) := by decide +kernel
theorem dL_law_541 : decode cL_law 541 = .ok (.iaload, 1) := by decide +kernel
theorem dL_law_542 : decode cL_law 542 = .ok (.invokevirtual 57, 3) := by decide +kernel
theorem dL_law_545 : decode cL_law 545 = .ok (.if_icmp .eq 1546, 3) := by decide +kernel
theorem dL_law_548 : decode cL_law 548 = .ok (.iconst 0, 1) := by decide +kernel
theorem dL_law_549 : decode cL_law 549 = .ok (.ireturn, 1) := by decide +kernel
theorem dL_law_550 : decode cL_law 550 = .ok (.aload_n 1, 1) := by decide +kernel
theorem dL_law_551 : decode cL_law 551 = .ok (.aload_n 0, 1) := by decide +kernel
theorem dL_law_552 : decode cL_law 552 = .ok (.iload 4, 2) := by decide +kernel
theorem dL_law_554 : decode cL_law 554 = .ok (.iconst 1, 1) := by decide +kernel
theorem dL_law_555 : decode cL_law 555 = .ok (.iadd, 1) := by decide +kernel
theorem dL_law_556 : decode cL_law 556 = .ok (.iaload, 1) := by decide +kernel
theorem dL_law_557 : decode cL_law 557 = .ok (.aload_n 0, 1) := by decide +kernel
theorem dL_law_558 : decode cL_law 558 = .ok (.iload 4, 2) := by decide +kernel
theorem dL_law_560 : decode cL_law 560 = .ok (.iconst 2, 1) := by decide +kernel
theorem dL_law_561 : decode cL_law 561 = .ok (.iadd, 1) := by decide +kernel
theorem dL_law_562 : decode cL_law 562 = .ok (.iaload, 1) := by decide +kernel
theorem dL_law_563 : decode cL_law 563 = .ok (.aload_n 0, 1) := by decide +kernel
theorem dL_law_564 : decode cL_law 564 = .ok (.iload 4, 2) := by decide +kernel
theorem dL_law_566 : decode cL_law 566 = .ok (.iconst 3, 1) := by decide +kernel
theorem dL_law_567 : decode cL_law 567 = .ok (.iadd, 1) := by decide +kernel
theorem dL_law_568 : decode cL_law 568 = .ok (.iaload, 1) := by decide +kernel
theorem dL_law_569 : decode cL_law 569 = .ok (.invokevirtual 58, 3) := by decide +kernel
theorem dL_law_572 : decode cL_law 572 = .ok (.aload_n 2, 1) := by decide +kernel
theorem dL_law_573 : decode cL_law 573 = .ok (.aload_n 0, 1) := by decide +kernel
theorem dL_law_574 : decode cL_law 574 = .ok (.iload 4, 2) := by decide +kernel
theorem dL_law_576 : decode cL_law 576 = .ok (.iconst 1, 1) := by decide +kernel
theorem dL_law_577 : decode cL_law 577 = .ok (.iadd, 1) := by decide +kernel
theorem dL_law_578 : decode cL_law 578 = .ok (.iaload, 1) := by decide +kernel
theorem dL_law_579 : decode cL_law 579 = .ok (.aload_n 0, 1) := by decide +kernel
theorem dL_law_580 : decode cL_law 580 = .ok (.iload 4, 2) := by decide +kernel
theorem dL_law_582 : decode cL_law 582 = .ok (.iconst 2, 1) := by decide +kernel
theorem dL_law_583 : decode cL_law 583 = .ok (.iadd, 1) := by decide +kernel
theorem dL_law_584 : decode cL_law 584 = .ok (.iaload, 1) := by decide +kernel
theorem dL_law_585 : decode cL_law 585 = .ok (.aload_n 0, 1) := by decide +kernel
theorem dL_law_586 : decode cL_law 586 = .ok (.iload 4, 2) := by decide +kernel
theorem dL_law_588 : decode cL_law 588 = .ok (.iconst 3, 1) := by decide +kernel
theorem dL_law_589 : decode cL_law 589 = .ok (.iadd, 1) := by decide +kernel
theorem dL_law_590 : decode cL_law 590 = .ok (.iaload, 1) := by decide +kernel
theorem dL_law_591 : decode cL_law 591 = .ok (.invokevirtual 61, 3) := by decide +kernel
theorem dL_law_594 : decode cL_law 594 = .ok (.if_icmp .eq 1497, 3) := by decide +kernel
theorem dL_law_597 : decode cL_law 597 = .ok (.iconst 0, 1) := by decide +kernel
theorem dL_law_598 : decode cL_law 598 = .ok (.ireturn, 1) := by decide +kernel
theorem dL_law_599 : decode cL_law 599 = .ok (.aload_n 1, 1) := by decide +kernel
theorem dL_law_600 : decode cL_law 600 = .ok (.aload_n 0, 1) := by decide +kernel
theorem dL_law_601 : decode cL_law 601 = .ok (.iload 4, 2) := by decide +kernel
theorem dL_law_603 : decode cL_law 603 = .ok (.iconst 1, 1) := by decide +kernel
theorem dL_law_604 : decode cL_law 604 = .ok (.iadd, 1) := by decide +kernel
theorem dL_law_605 : decode cL_law 605 = .ok (.iaload, 1) := by decide +kernel
theorem dL_law_606 : decode cL_law 606 = .ok (.aload_n 0, 1) := by decide +kernel
theorem dL_law_607 : decode cL_law 607 = .ok (.iload 4, 2) := by decide +kernel
theorem dL_law_609 : decode cL_law 609 = .ok (.iconst 2, 1) := by decide +kernel
theorem dL_law_610 : decode cL_law 610 = .ok (.iadd, 1) := by decide +kernel
theorem dL_law_611 : decode cL_law 611 = .ok (.iaload, 1) := by decide +kernel
theorem dL_law_612 : decode cL_law 612 = .ok (.aload_n 0, 1) := by decide +kernel
theorem dL_law_613 : decode cL_law 613 = .ok (.iload 4, 2) := by decide +kernel
theorem dL_law_615 : decode cL_law 615 = .ok (.iconst 3, 1) := by decide +kernel
theorem dL_law_616 : decode cL_law 616 = .ok (.iadd, 1) := by decide +kernel
theorem dL_law_617 : decode cL_law 617 = .ok (.iaload, 1) := by decide +kernel
theorem dL_law_618 : decode cL_law 618 = .ok (.aload_n 0, 1) := by decide +kernel
theorem dL_law_619 : decode cL_law 619 = .ok (.iload 4, 2) := by decide +kernel
theorem dL_law_621 : decode cL_law 621 = .ok (.iconst 4, 1) := by decide +kernel
theorem dL_law_622 : decode cL_law 622 = .ok (.iadd, 1) := by decide +kernel
theorem dL_law_623 : decode cL_law 623 = .ok (.iaload, 1) := by decide +kernel
theorem dL_law_624 : decode cL_law 624 = .ok (.invokevirtual 62, 3) := by decide +kernel
theorem dL_law_627 : decode cL_law 627 = .ok (.aload_n 2, 1) := by decide +kernel
theorem dL_law_628 : decode cL_law 628 = .ok (.aload_n 0, 1) := by decide +kernel
theorem dL_law_629 : decode cL_law 629 = .ok (.iload 4, 2) := by decide +kernel
theorem dL_law_631 : decode cL_law 631 = .ok (.iconst 1, 1) := by decide +kernel
theorem dL_law_632 : decode cL_law 632 = .ok (.iadd, 1) := by decide +kernel
theorem dL_law_633 : decode cL_law 633 = .ok (.iaload, 1) := by decide +kernel
theorem dL_law_634 : decode cL_law 634 = .ok (.aload_n 0, 1) := by decide +kernel
theorem dL_law_635 : decode cL_law 635 = .ok (.iload 4, 2) := by decide +kernel
theorem dL_law_637 : decode cL_law 637 = .ok (.iconst 2, 1) := by decide +kernel
theorem dL_law_638 : decode cL_law 638 = .ok (.iadd, 1) := by decide +kernel
theorem dL_law_639 : decode cL_law 639 = .ok (.iaload, 1) := by decide +kernel
theorem dL_law_640 : decode cL_law 640 = .ok (.aload_n 0, 1) := by decide +kernel
theorem dL_law_641 : decode cL_law 641 = .ok (.iload 4, 2) := by decide +kernel
theorem dL_law_643 : decode cL_law 643 = .ok (.iconst 3, 1) := by decide +kernel
theorem dL_law_644 : decode cL_law 644 = .ok (.iadd, 1) := by decide +kernel
theorem dL_law_645 : decode cL_law 645 = .ok (.iaload, 1) := by decide +kernel
theorem dL_law_646 : decode cL_law 646 = .ok (.aload_n 0, 1) := by decide +kernel
theorem dL_law_647 : decode cL_law 647 = .ok (.iload 4, 2) := by decide +kernel
theorem dL_law_649 : decode cL_law 649 = .ok (.iconst 4, 1) := by decide +kernel
theorem dL_law_650 : decode cL_law 650 = .ok (.iadd, 1) := by decide +kernel
theorem dL_law_651 : decode cL_law 651 = .ok (.iaload, 1) := by decide +kernel
theorem dL_law_652 : decode cL_law 652 = .ok (.invokevirtual 66, 3) := by decide +kernel
theorem dL_law_655 : decode cL_law 655 = .ok (.if_icmp .eq 1436, 3) := by decide +kernel
theorem dL_law_658 : decode cL_law 658 = .ok (.iconst 0, 1) := by decide +kernel
theorem dL_law_659 : decode cL_law 659 = .ok (.ireturn, 1) := by decide +kernel
theorem dL_law_660 : decode cL_law 660 = .ok (.aload_n 1, 1) := by decide +kernel
theorem dL_law_661 : decode cL_law 661 = .ok (.aload_n 0, 1) := by decide +kernel
theorem dL_law_662 : decode cL_law 662 = .ok (.iload 4, 2) := by decide +kernel
theorem dL_law_664 : decode cL_law 664 = .ok (.iconst 1, 1) := by decide +kernel
theorem dL_law_665 : decode cL_law 665 = .ok (.iadd, 1) := by decide +kernel
theorem dL_law_666 : decode cL_law 666 = .ok (.iaload, 1) := by decide +kernel
theorem dL_law_667 : decode cL_law 667 = .ok (.aload_n 0, 1) := by decide +kernel
theorem dL_law_668 : decode cL_law 668 = .ok (.iload 4, 2) := by decide +kernel
theorem dL_law_670 : decode cL_law 670 = .ok (.iconst 2, 1) := by decide +kernel
theorem dL_law_671 : decode cL_law 671 = .ok (.iadd, 1) := by decide +kernel
theorem dL_law_672 : decode cL_law 672 = .ok (.iaload, 1) := by decide +kernel
theorem dL_law_673 : decode cL_law 673 = .ok (.aload_n 0, 1) := by decide +kernel
theorem dL_law_674 : decode cL_law 674 = .ok (.iload 4, 2) := by decide +kernel
theorem dL_law_676 : decode cL_law 676 = .ok (.iconst 3, 1) := by decide +kernel
theorem dL_law_677 : decode cL_law 677 = .ok (.iadd, 1) := by decide +kernel
theorem dL_law_678 : decode cL_law 678 = .ok (.iaload, 1) := by decide +kernel
theorem dL_law_679 : decode cL_law 679 = .ok (.invokevirtual 67, 3) := by decide +kernel
theorem dL_law_682 : decode cL_law 682 = .ok (.aload_n 2, 1) := by decide +kernel
theorem dL_law_683 : decode cL_law 683 = .ok (.aload_n 0, 1) := by decide +kernel
theorem dL_law_684 : decode cL_law 684 = .ok (.iload 4, 2) := by decide +kernel
theorem dL_law_686 : decode cL_law 686 = .ok (.iconst 1, 1) := by decide +kernel
theorem dL_law_687 : decode cL_law 687 = .ok (.iadd, 1) := by decide +kernel
theorem dL_law_688 : decode cL_law 688 = .ok (.iaload, 1) := by decide +kernel
theorem dL_law_689 : decode cL_law 689 = .ok (.aload_n 0, 1) := by decide +kernel
theorem dL_law_690 : decode cL_law 690 = .ok (.iload 4, 2) := by decide +kernel
theorem dL_law_692 : decode cL_law 692 = .ok (.iconst 2, 1) := by decide +kernel
theorem dL_law_693 : decode cL_law 693 = .ok (.iadd, 1) := by decide +kernel
theorem dL_law_694 : decode cL_law 694 = .ok (.iaload, 1) := by decide +kernel
theorem dL_law_695 : decode cL_law 695 = .ok (.aload_n 0, 1) := by decide +kernel
theorem dL_law_696 : decode cL_law 696 = .ok (.iload 4, 2) := by decide +kernel
theorem dL_law_698 : decode cL_law 698 = .ok (.iconst 3, 1) := by decide +kernel
theorem dL_law_699 : decode cL_law 699 = .ok (.iadd, 1) := by decide +kernel
theorem dL_law_700 : decode cL_law 700 = .ok (.iaload, 1) := by decide +kernel
theorem dL_law_701 : decode cL_law 701 = .ok (.invokevirtual 71, 3) := by decide +kernel
theorem dL_law_704 : decode cL_law 704 = .ok (.if_icmp .eq 1387, 3) := by decide +kernel
theorem dL_law_707 : decode cL_law 707 = .ok (.iconst 0, 1) := by decide +kernel
theorem dL_law_708 : decode cL_law 708 = .ok (.ireturn, 1) := by decide +kernel
theorem dL_law_709 : decode cL_law 709 = .ok (.aload_n 1, 1) := by decide +kernel
theorem dL_law_710 : decode cL_law 710 = .ok (.aload_n 0, 1) := by decide +kernel
theorem dL_law_711 : decode cL_law 711 = .ok (.iload 4, 2) := by decide +kernel
theorem dL_law_713 : decode cL_law 713 = .ok (.iconst 1, 1) := by decide +kernel
theorem dL_law_714 : decode cL_law 714 = .ok (.iadd, 1) := by decide +kernel
theorem dL_law_715 : decode cL_law 715 = .ok (.iaload, 1) := by decide +kernel
theorem dL_law_716 : decode cL_law 716 = .ok (.aload_n 0, 1) := by decide +kernel
theorem dL_law_717 : decode cL_law 717 = .ok (.iload 4, 2) := by decide +kernel
theorem dL_law_719 : decode cL_law 719 = .ok (.iconst 2, 1) := by decide +kernel
theorem dL_law_720 : decode cL_law 720 = .ok (.iadd, 1) := by decide +kernel
theorem dL_law_721 : decode cL_law 721 = .ok (.iaload, 1) := by decide +kernel
theorem dL_law_722 : decode cL_law 722 = .ok (.aload_n 0, 1) := by decide +kernel
theorem dL_law_723 : decode cL_law 723 = .ok (.iload 4, 2) := by decide +kernel
theorem dL_law_725 : decode cL_law 725 = .ok (.iconst 3, 1) := by decide +kernel
theorem dL_law_726 : decode cL_law 726 = .ok (.iadd, 1) := by decide +kernel
theorem dL_law_727 : decode cL_law 727 = .ok (.iaload, 1) := by decide +kernel
theorem dL_law_728 : decode cL_law 728 = .ok (.aload_n 0, 1) := by decide +kernel
theorem dL_law_729 : decode cL_law 729 = .ok (.iload 4, 2) := by decide +kernel
theorem dL_law_731 : decode cL_law 731 = .ok (.iconst 4, 1) := by decide +kernel
theorem dL_law_732 : decode cL_law 732 = .ok (.iadd, 1) := by decide +kernel
theorem dL_law_733 : decode cL_law 733 = .ok (.iaload, 1) := by decide +kernel
theorem dL_law_734 : decode cL_law 734 = .ok (.invokevirtual 72, 3) := by decide +kernel
theorem dL_law_737 : decode cL_law 737 = .ok (.aload_n 2, 1) := by decide +kernel
theorem dL_law_738 : decode cL_law 738 = .ok (.aload_n 0, 1) := by decide +kernel
theorem dL_law_739 : decode cL_law 739 = .ok (.iload 4, 2) := by decide +kernel
theorem dL_law_741 : decode cL_law 741 = .ok (.iconst 1, 1) := by decide +kernel
theorem dL_law_742 : decode cL_law 742 = .ok (.iadd, 1) := by decide +kernel
theorem dL_law_743 : decode cL_law 743 = .ok (.iaload, 1) := by decide +kernel
theorem dL_law_744 : decode cL_law 744 = .ok (.aload_n 0, 1) := by decide +kernel
theorem dL_law_745 : decode cL_law 745 = .ok (.iload 4, 2) := by decide +kernel
theorem dL_law_747 : decode cL_law 747 = .ok (.iconst 2, 1) := by decide +kernel
theorem dL_law_748 : decode cL_law 748 = .ok (.iadd, 1) := by decide +kernel
theorem dL_law_749 : decode cL_law 749 = .ok (.iaload, 1) := by decide +kernel
theorem dL_law_750 : decode cL_law 750 = .ok (.aload_n 0, 1) := by decide +kernel
theorem dL_law_751 : decode cL_law 751 = .ok (.iload 4, 2) := by decide +kernel
theorem dL_law_753 : decode cL_law 753 = .ok (.iconst 3, 1) := by decide +kernel
theorem dL_law_754 : decode cL_law 754 = .ok (.iadd, 1) := by decide +kernel
theorem dL_law_755 : decode cL_law 755 = .ok (.iaload, 1) := by decide +kernel
theorem dL_law_756 : decode cL_law 756 = .ok (.aload_n 0, 1) := by decide +kernel
theorem dL_law_757 : decode cL_law 757 = .ok (.iload 4, 2) := by decide +kernel
theorem dL_law_759 : decode cL_law 759 = .ok (.iconst 4, 1) := by decide +kernel
theorem dL_law_760 : decode cL_law 760 = .ok (.iadd, 1) := by decide +kernel
theorem dL_law_761 : decode cL_law 761 = .ok (.iaload, 1) := by decide +kernel
theorem dL_law_762 : decode cL_law 762 = .ok (.invokevirtual 75, 3) := by decide +kernel
theorem dL_law_765 : decode cL_law 765 = .ok (.if_icmp .eq 1326, 3) := by decide +kernel
theorem dL_law_768 : decode cL_law 768 = .ok (.iconst 0, 1) := by decide +kernel
theorem dL_law_769 : decode cL_law 769 = .ok (.ireturn, 1) := by decide +kernel
theorem dL_law_770 : decode cL_law 770 = .ok (.aload_n 1, 1) := by decide +kernel
theorem dL_law_771 : decode cL_law 771 = .ok (.aload_n 0, 1) := by decide +kernel
theorem dL_law_772 : decode cL_law 772 = .ok (.iload 4, 2) := by decide +kernel
theorem dL_law_774 : decode cL_law 774 = .ok (.iconst 1, 1) := by decide +kernel
theorem dL_law_775 : decode cL_law 775 = .ok (.iadd, 1) := by decide +kernel
theorem dL_law_776 : decode cL_law 776 = .ok (.iaload, 1) := by decide +kernel
theorem dL_law_777 : decode cL_law 777 = .ok (.aload_n 0, 1) := by decide +kernel
theorem dL_law_778 : decode cL_law 778 = .ok (.iload 4, 2) := by decide +kernel
theorem dL_law_780 : decode cL_law 780 = .ok (.iconst 2, 1) := by decide +kernel
theorem dL_law_781 : decode cL_law 781 = .ok (.iadd, 1) := by decide +kernel
theorem dL_law_782 : decode cL_law 782 = .ok (.iaload, 1) := by decide +kernel
theorem dL_law_783 : decode cL_law 783 = .ok (.invokevirtual 76, 3) := by decide +kernel
theorem dL_law_786 : decode cL_law 786 = .ok (.aload_n 2, 1) := by decide +kernel
theorem dL_law_787 : decode cL_law 787 = .ok (.aload_n 0, 1) := by decide +kernel
theorem dL_law_788 : decode cL_law 788 = .ok (.iload 4, 2) := by decide +kernel
theorem dL_law_790 : decode cL_law 790 = .ok (.iconst 1, 1) := by decide +kernel
theorem dL_law_791 : decode cL_law 791 = .ok (.iadd, 1) := by decide +kernel
theorem dL_law_792 : decode cL_law 792 = .ok (.iaload, 1) := by decide +kernel
theorem dL_law_793 : decode cL_law 793 = .ok (.aload_n 0, 1) := by decide +kernel
theorem dL_law_794 : decode cL_law 794 = .ok (.iload 4, 2) := by decide +kernel
theorem dL_law_796 : decode cL_law 796 = .ok (.iconst 2, 1) := by decide +kernel
theorem dL_law_797 : decode cL_law 797 = .ok (.iadd, 1) := by decide +kernel
theorem dL_law_798 : decode cL_law 798 = .ok (.iaload, 1) := by decide +kernel
theorem dL_law_799 : decode cL_law 799 = .ok (.invokevirtual 80, 3) := by decide +kernel
theorem dL_law_802 : decode cL_law 802 = .ok (.if_icmp .eq 1289, 3) := by decide +kernel
theorem dL_law_805 : decode cL_law 805 = .ok (.iconst 0, 1) := by decide +kernel
theorem dL_law_806 : decode cL_law 806 = .ok (.ireturn, 1) := by decide +kernel
theorem dL_law_807 : decode cL_law 807 = .ok (.aload_n 1, 1) := by decide +kernel
theorem dL_law_808 : decode cL_law 808 = .ok (.aload_n 0, 1) := by decide +kernel
theorem dL_law_809 : decode cL_law 809 = .ok (.iload 4, 2) := by decide +kernel
theorem dL_law_811 : decode cL_law 811 = .ok (.iconst 1, 1) := by decide +kernel
theorem dL_law_812 : decode cL_law 812 = .ok (.iadd, 1) := by decide +kernel
theorem dL_law_813 : decode cL_law 813 = .ok (.iaload, 1) := by decide +kernel
theorem dL_law_814 : decode cL_law 814 = .ok (.aload_n 0, 1) := by decide +kernel
theorem dL_law_815 : decode cL_law 815 = .ok (.iload 4, 2) := by decide +kernel
theorem dL_law_817 : decode cL_law 817 = .ok (.iconst 2, 1) := by decide +kernel
theorem dL_law_818 : decode cL_law 818 = .ok (.iadd, 1) := by decide +kernel
theorem dL_law_819 : decode cL_law 819 = .ok (.iaload, 1) := by decide +kernel
theorem dL_law_820 : decode cL_law 820 = .ok (.aload_n 0, 1) := by decide +kernel
theorem dL_law_821 : decode cL_law 821 = .ok (.iload 4, 2) := by decide +kernel
theorem dL_law_823 : decode cL_law 823 = .ok (.iconst 3, 1) := by decide +kernel
theorem dL_law_824 : decode cL_law 824 = .ok (.iadd, 1) := by decide +kernel
theorem dL_law_825 : decode cL_law 825 = .ok (.iaload, 1) := by decide +kernel
theorem dL_law_826 : decode cL_law 826 = .ok (.invokevirtual 81, 3) := by decide +kernel
theorem dL_law_829 : decode cL_law 829 = .ok (.aload_n 2, 1) := by decide +kernel
theorem dL_law_830 : decode cL_law 830 = .ok (.aload_n 0, 1) := by decide +kernel
theorem dL_law_831 : decode cL_law 831 = .ok (.iload 4, 2) := by decide +kernel
theorem dL_law_833 : decode cL_law 833 = .ok (.iconst 1, 1) := by decide +kernel
theorem dL_law_834 : decode cL_law 834 = .ok (.iadd, 1) := by decide +kernel
theorem dL_law_835 : decode cL_law 835 = .ok (.iaload, 1) := by decide +kernel
theorem dL_law_836 : decode cL_law 836 = .ok (.aload_n 0, 1) := by decide +kernel
theorem dL_law_837 : decode cL_law 837 = .ok (.iload 4, 2) := by decide +kernel
theorem dL_law_839 : decode cL_law 839 = .ok (.iconst 2, 1) := by decide +kernel
theorem dL_law_840 : decode cL_law 840 = .ok (.iadd, 1) := by decide +kernel
theorem dL_law_841 : decode cL_law 841 = .ok (.iaload, 1) := by decide +kernel
theorem dL_law_842 : decode cL_law 842 = .ok (.aload_n 0, 1) := by decide +kernel
theorem dL_law_843 : decode cL_law 843 = .ok (.iload 4, 2) := by decide +kernel
theorem dL_law_845 : decode cL_law 845 = .ok (.iconst 3, 1) := by decide +kernel
theorem dL_law_846 : decode cL_law 846 = .ok (.iadd, 1) := by decide +kernel
theorem dL_law_847 : decode cL_law 847 = .ok (.iaload, 1) := by decide +kernel
theorem dL_law_848 : decode cL_law 848 = .ok (.invokevirtual 84, 3) := by decide +kernel
theorem dL_law_851 : decode cL_law 851 = .ok (.if_icmp .eq 1240, 3) := by decide +kernel
theorem dL_law_854 : decode cL_law 854 = .ok (.iconst 0, 1) := by decide +kernel
theorem dL_law_855 : decode cL_law 855 = .ok (.ireturn, 1) := by decide +kernel
theorem dL_law_856 : decode cL_law 856 = .ok (.aload_n 1, 1) := by decide +kernel
theorem dL_law_857 : decode cL_law 857 = .ok (.aload_n 0, 1) := by decide +kernel
theorem dL_law_858 : decode cL_law 858 = .ok (.iload 4, 2) := by decide +kernel
theorem dL_law_860 : decode cL_law 860 = .ok (.iconst 1, 1) := by decide +kernel
theorem dL_law_861 : decode cL_law 861 = .ok (.iadd, 1) := by decide +kernel
theorem dL_law_862 : decode cL_law 862 = .ok (.iaload, 1) := by decide +kernel
theorem dL_law_863 : decode cL_law 863 = .ok (.aload_n 0, 1) := by decide +kernel
theorem dL_law_864 : decode cL_law 864 = .ok (.iload 4, 2) := by decide +kernel
theorem dL_law_866 : decode cL_law 866 = .ok (.iconst 2, 1) := by decide +kernel
theorem dL_law_867 : decode cL_law 867 = .ok (.iadd, 1) := by decide +kernel
theorem dL_law_868 : decode cL_law 868 = .ok (.iaload, 1) := by decide +kernel
theorem dL_law_869 : decode cL_law 869 = .ok (.invokevirtual 85, 3) := by decide +kernel
theorem dL_law_872 : decode cL_law 872 = .ok (.aload_n 2, 1) := by decide +kernel
theorem dL_law_873 : decode cL_law 873 = .ok (.aload_n 0, 1) := by decide +kernel
theorem dL_law_874 : decode cL_law 874 = .ok (.iload 4, 2) := by decide +kernel
theorem dL_law_876 : decode cL_law 876 = .ok (.iconst 1, 1) := by decide +kernel
theorem dL_law_877 : decode cL_law 877 = .ok (.iadd, 1) := by decide +kernel
theorem dL_law_878 : decode cL_law 878 = .ok (.iaload, 1) := by decide +kernel
theorem dL_law_879 : decode cL_law 879 = .ok (.aload_n 0, 1) := by decide +kernel
theorem dL_law_880 : decode cL_law 880 = .ok (.iload 4, 2) := by decide +kernel
theorem dL_law_882 : decode cL_law 882 = .ok (.iconst 2, 1) := by decide +kernel
theorem dL_law_883 : decode cL_law 883 = .ok (.iadd, 1) := by decide +kernel
theorem dL_law_884 : decode cL_law 884 = .ok (.iaload, 1) := by decide +kernel
theorem dL_law_885 : decode cL_law 885 = .ok (.invokevirtual 88, 3) := by decide +kernel
theorem dL_law_888 : decode cL_law 888 = .ok (.if_icmp .eq 1203, 3) := by decide +kernel
theorem dL_law_891 : decode cL_law 891 = .ok (.iconst 0, 1) := by decide +kernel
theorem dL_law_892 : decode cL_law 892 = .ok (.ireturn, 1) := by decide +kernel
theorem dL_law_893 : decode cL_law 893 = .ok (.aload_n 1, 1) := by decide +kernel
theorem dL_law_894 : decode cL_law 894 = .ok (.aload_n 0, 1) := by decide +kernel
theorem dL_law_895 : decode cL_law 895 = .ok (.iload 4, 2) := by decide +kernel
theorem dL_law_897 : decode cL_law 897 = .ok (.iconst 1, 1) := by decide +kernel
theorem dL_law_898 : decode cL_law 898 = .ok (.iadd, 1) := by decide +kernel
theorem dL_law_899 : decode cL_law 899 = .ok (.iaload, 1) := by decide +kernel
theorem dL_law_900 : decode cL_law 900 = .ok (.invokevirtual 89, 3) := by decide +kernel
theorem dL_law_903 : decode cL_law 903 = .ok (.aload_n 2, 1) := by decide +kernel
theorem dL_law_904 : decode cL_law 904 = .ok (.aload_n 0, 1) := by decide +kernel
theorem dL_law_905 : decode cL_law 905 = .ok (.iload 4, 2) := by decide +kernel
theorem dL_law_907 : decode cL_law 907 = .ok (.iconst 1, 1) := by decide +kernel
theorem dL_law_908 : decode cL_law 908 = .ok (.iadd, 1) := by decide +kernel
theorem dL_law_909 : decode cL_law 909 = .ok (.iaload, 1) := by decide +kernel
theorem dL_law_910 : decode cL_law 910 = .ok (.invokevirtual 92, 3) := by decide +kernel
theorem dL_law_913 : decode cL_law 913 = .ok (.if_icmp .eq 1178, 3) := by decide +kernel
theorem dL_law_916 : decode cL_law 916 = .ok (.iconst 0, 1) := by decide +kernel
theorem dL_law_917 : decode cL_law 917 = .ok (.ireturn, 1) := by decide +kernel
theorem dL_law_918 : decode cL_law 918 = .ok (.aload_n 1, 1) := by decide +kernel
theorem dL_law_919 : decode cL_law 919 = .ok (.aload_n 0, 1) := by decide +kernel
theorem dL_law_920 : decode cL_law 920 = .ok (.iload 4, 2) := by decide +kernel
theorem dL_law_922 : decode cL_law 922 = .ok (.iconst 1, 1) := by decide +kernel
theorem dL_law_923 : decode cL_law 923 = .ok (.iadd, 1) := by decide +kernel
theorem dL_law_924 : decode cL_law 924 = .ok (.iaload, 1) := by decide +kernel
theorem dL_law_925 : decode cL_law 925 = .ok (.aload_n 0, 1) := by decide +kernel
theorem dL_law_926 : decode cL_law 926 = .ok (.iload 4, 2) := by decide +kernel
theorem dL_law_928 : decode cL_law 928 = .ok (.iconst 2, 1) := by decide +kernel
theorem dL_law_929 : decode cL_law 929 = .ok (.iadd, 1) := by decide +kernel
theorem dL_law_930 : decode cL_law 930 = .ok (.iaload, 1) := by decide +kernel
theorem dL_law_931 : decode cL_law 931 = .ok (.aload_n 0, 1) := by decide +kernel
theorem dL_law_932 : decode cL_law 932 = .ok (.iload 4, 2) := by decide +kernel
theorem dL_law_934 : decode cL_law 934 = .ok (.iconst 3, 1) := by decide +kernel
theorem dL_law_935 : decode cL_law 935 = .ok (.iadd, 1) := by decide +kernel
theorem dL_law_936 : decode cL_law 936 = .ok (.iaload, 1) := by decide +kernel
theorem dL_law_937 : decode cL_law 937 = .ok (.invokevirtual 93, 3) := by decide +kernel
theorem dL_law_940 : decode cL_law 940 = .ok (.aload_n 2, 1) := by decide +kernel
theorem dL_law_941 : decode cL_law 941 = .ok (.aload_n 0, 1) := by decide +kernel
theorem dL_law_942 : decode cL_law 942 = .ok (.iload 4, 2) := by decide +kernel
theorem dL_law_944 : decode cL_law 944 = .ok (.iconst 1, 1) := by decide +kernel
theorem dL_law_945 : decode cL_law 945 = .ok (.iadd, 1) := by decide +kernel
theorem dL_law_946 : decode cL_law 946 = .ok (.iaload, 1) := by decide +kernel
theorem dL_law_947 : decode cL_law 947 = .ok (.aload_n 0, 1) := by decide +kernel
theorem dL_law_948 : decode cL_law 948 = .ok (.iload 4, 2) := by decide +kernel
theorem dL_law_950 : decode cL_law 950 = .ok (.iconst 2, 1) := by decide +kernel
theorem dL_law_951 : decode cL_law 951 = .ok (.iadd, 1) := by decide +kernel
theorem dL_law_952 : decode cL_law 952 = .ok (.iaload, 1) := by decide +kernel
theorem dL_law_953 : decode cL_law 953 = .ok (.aload_n 0, 1) := by decide +kernel
theorem dL_law_954 : decode cL_law 954 = .ok (.iload 4, 2) := by decide +kernel
theorem dL_law_956 : decode cL_law 956 = .ok (.iconst 3, 1) := by decide +kernel
theorem dL_law_957 : decode cL_law 957 = .ok (.iadd, 1) := by decide +kernel
theorem dL_law_958 : decode cL_law 958 = .ok (.iaload, 1) := by decide +kernel
theorem dL_law_959 : decode cL_law 959 = .ok (.invokevirtual 96, 3) := by decide +kernel
theorem dL_law_962 : decode cL_law 962 = .ok (.if_icmp .eq 1129, 3) := by decide +kernel
theorem dL_law_965 : decode cL_law 965 = .ok (.iconst 0, 1) := by decide +kernel
theorem dL_law_966 : decode cL_law 966 = .ok (.ireturn, 1) := by decide +kernel
theorem dL_law_967 : decode cL_law 967 = .ok (.aload_n 1, 1) := by decide +kernel
theorem dL_law_968 : decode cL_law 968 = .ok (.aload_n 0, 1) := by decide +kernel
theorem dL_law_969 : decode cL_law 969 = .ok (.iload 4, 2) := by decide +kernel
theorem dL_law_971 : decode cL_law 971 = .ok (.iconst 1, 1) := by decide +kernel
theorem dL_law_972 : decode cL_law 972 = .ok (.iadd, 1) := by decide +kernel
theorem dL_law_973 : decode cL_law 973 = .ok (.iaload, 1) := by decide +kernel
theorem dL_law_974 : decode cL_law 974 = .ok (.aload_n 0, 1) := by decide +kernel
theorem dL_law_975 : decode cL_law 975 = .ok (.iload 4, 2) := by decide +kernel
theorem dL_law_977 : decode cL_law 977 = .ok (.iconst 2, 1) := by decide +kernel
theorem dL_law_978 : decode cL_law 978 = .ok (.iadd, 1) := by decide +kernel
theorem dL_law_979 : decode cL_law 979 = .ok (.iaload, 1) := by decide +kernel
theorem dL_law_980 : decode cL_law 980 = .ok (.invokevirtual 97, 3) := by decide +kernel
theorem dL_law_983 : decode cL_law 983 = .ok (.aload_n 2, 1) := by decide +kernel
theorem dL_law_984 : decode cL_law 984 = .ok (.aload_n 0, 1) := by decide +kernel
theorem dL_law_985 : decode cL_law 985 = .ok (.iload 4, 2) := by decide +kernel
theorem dL_law_987 : decode cL_law 987 = .ok (.iconst 1, 1) := by decide +kernel
theorem dL_law_988 : decode cL_law 988 = .ok (.iadd, 1) := by decide +kernel
theorem dL_law_989 : decode cL_law 989 = .ok (.iaload, 1) := by decide +kernel
theorem dL_law_990 : decode cL_law 990 = .ok (.aload_n 0, 1) := by decide +kernel
theorem dL_law_991 : decode cL_law 991 = .ok (.iload 4, 2) := by decide +kernel
theorem dL_law_993 : decode cL_law 993 = .ok (.iconst 2, 1) := by decide +kernel
theorem dL_law_994 : decode cL_law 994 = .ok (.iadd, 1) := by decide +kernel
theorem dL_law_995 : decode cL_law 995 = .ok (.iaload, 1) := by decide +kernel
theorem dL_law_996 : decode cL_law 996 = .ok (.invokevirtual 100, 3) := by decide +kernel
theorem dL_law_999 : decode cL_law 999 = .ok (.if_icmp .eq 1092, 3) := by decide +kernel
theorem dL_law_1002 : decode cL_law 1002 = .ok (.iconst 0, 1) := by decide +kernel
theorem dL_law_1003 : decode cL_law 1003 = .ok (.ireturn, 1) := by decide +kernel
theorem dL_law_1004 : decode cL_law 1004 = .ok (.aload_n 1, 1) := by decide +kernel
theorem dL_law_1005 : decode cL_law 1005 = .ok (.aload_n 0, 1) := by decide +kernel
theorem dL_law_1006 : decode cL_law 1006 = .ok (.iload 4, 2) := by decide +kernel
theorem dL_law_1008 : decode cL_law 1008 = .ok (.iconst 1, 1) := by decide +kernel
theorem dL_law_1009 : decode cL_law 1009 = .ok (.iadd, 1) := by decide +kernel
theorem dL_law_1010 : decode cL_law 1010 = .ok (.iaload, 1) := by decide +kernel
theorem dL_law_1011 : decode cL_law 1011 = .ok (.aload_n 0, 1) := by decide +kernel
theorem dL_law_1012 : decode cL_law 1012 = .ok (.iload 4, 2) := by decide +kernel
theorem dL_law_1014 : decode cL_law 1014 = .ok (.iconst 2, 1) := by decide +kernel
theorem dL_law_1015 : decode cL_law 1015 = .ok (.iadd, 1) := by decide +kernel
theorem dL_law_1016 : decode cL_law 1016 = .ok (.iaload, 1) := by decide +kernel
theorem dL_law_1017 : decode cL_law 1017 = .ok (.invokevirtual 101, 3) := by decide +kernel
theorem dL_law_1020 : decode cL_law 1020 = .ok (.aload_n 2, 1) := by decide +kernel
theorem dL_law_1021 : decode cL_law 1021 = .ok (.aload_n 0, 1) := by decide +kernel
theorem dL_law_1022 : decode cL_law 1022 = .ok (.iload 4, 2) := by decide +kernel
theorem dL_law_1024 : decode cL_law 1024 = .ok (.iconst 1, 1) := by decide +kernel
theorem dL_law_1025 : decode cL_law 1025 = .ok (.iadd, 1) := by decide +kernel
theorem dL_law_1026 : decode cL_law 1026 = .ok (.iaload, 1) := by decide +kernel
theorem dL_law_1027 : decode cL_law 1027 = .ok (.aload_n 0, 1) := by decide +kernel
theorem dL_law_1028 : decode cL_law 1028 = .ok (.iload 4, 2) := by decide +kernel
theorem dL_law_1030 : decode cL_law 1030 = .ok (.iconst 2, 1) := by decide +kernel
theorem dL_law_1031 : decode cL_law 1031 = .ok (.iadd, 1) := by decide +kernel
theorem dL_law_1032 : decode cL_law 1032 = .ok (.iaload, 1) := by decide +kernel
theorem dL_law_1033 : decode cL_law 1033 = .ok (.invokevirtual 104, 3) := by decide +kernel
theorem dL_law_1036 : decode cL_law 1036 = .ok (.if_icmp .eq 1055, 3) := by decide +kernel
theorem dL_law_1039 : decode cL_law 1039 = .ok (.iconst 0, 1) := by decide +kernel
theorem dL_law_1040 : decode cL_law 1040 = .ok (.ireturn, 1) := by decide +kernel
theorem dL_law_1041 : decode cL_law 1041 = .ok (.aload_n 1, 1) := by decide +kernel
theorem dL_law_1042 : decode cL_law 1042 = .ok (.aload_n 0, 1) := by decide +kernel
theorem dL_law_1043 : decode cL_law 1043 = .ok (.iload 4, 2) := by decide +kernel
theorem dL_law_1045 : decode cL_law 1045 = .ok (.iconst 1, 1) := by decide +kernel
theorem dL_law_1046 : decode cL_law 1046 = .ok (.iadd, 1) := by decide +kernel
theorem dL_law_1047 : decode cL_law 1047 = .ok (.iaload, 1) := by decide +kernel
theorem dL_law_1048 : decode cL_law 1048 = .ok (.aload_n 0, 1) := by decide +kernel
theorem dL_law_1049 : decode cL_law 1049 = .ok (.iload 4, 2) := by decide +kernel
theorem dL_law_1051 : decode cL_law 1051 = .ok (.iconst 2, 1) := by decide +kernel
theorem dL_law_1052 : decode cL_law 1052 = .ok (.iadd, 1) := by decide +kernel
theorem dL_law_1053 : decode cL_law 1053 = .ok (.iaload, 1) := by decide +kernel
theorem dL_law_1054 : decode cL_law 1054 = .ok (.aload_n 0, 1) := by decide +kernel
theorem dL_law_1055 : decode cL_law 1055 = .ok (.iload 4, 2) := by decide +kernel
theorem dL_law_1057 : decode cL_law 1057 = .ok (.iconst 3, 1) := by decide +kernel
theorem dL_law_1058 : decode cL_law 1058 = .ok (.iadd, 1) := by decide +kernel
theorem dL_law_1059 : decode cL_law 1059 = .ok (.iaload, 1) := by decide +kernel
theorem dL_law_1060 : decode cL_law 1060 = .ok (.invokevirtual 105, 3) := by decide +kernel
theorem dL_law_1063 : decode cL_law 1063 = .ok (.aload_n 2, 1) := by decide +kernel
theorem dL_law_1064 : decode cL_law 1064 = .ok (.aload_n 0, 1) := by decide +kernel
theorem dL_law_1065 : decode cL_law 1065 = .ok (.iload 4, 2) := by decide +kernel
theorem dL_law_1067 : decode cL_law 1067 = .ok (.iconst 1, 1) := by decide +kernel
theorem dL_law_1068 : decode cL_law 1068 = .ok (.iadd, 1) := by decide +kernel
theorem dL_law_1069 : decode cL_law 1069 = .ok (.iaload, 1) := by decide +kernel
theorem dL_law_1070 : decode cL_law 1070 = .ok (.aload_n 0, 1) := by decide +kernel
theorem dL_law_1071 : decode cL_law 1071 = .ok (.iload 4, 2) := by decide +kernel
theorem dL_law_1073 : decode cL_law 1073 = .ok (.iconst 2, 1) := by decide +kernel
theorem dL_law_1074 : decode cL_law 1074 = .ok (.iadd, 1) := by decide +kernel
theorem dL_law_1075 : decode cL_law 1075 = .ok (.iaload, 1) := by decide +kernel
theorem dL_law_1076 : decode cL_law 1076 = .ok (.aload_n 0, 1) := by decide +kernel
theorem dL_law_1077 : decode cL_law 1077 = .ok (.iload 4, 2) := by decide +kernel
theorem dL_law_1079 : decode cL_law 1079 = .ok (.iconst 3, 1) := by decide +kernel
theorem dL_law_1080 : decode cL_law 1080 = .ok (.iadd, 1) := by decide +kernel
theorem dL_law_1081 : decode cL_law 1081 = .ok (.iaload, 1) := by decide +kernel
theorem dL_law_1082 : decode cL_law 1082 = .ok (.invokevirtual 108, 3) := by decide +kernel
theorem dL_law_1085 : decode cL_law 1085 = .ok (.if_icmp .eq 1006, 3) := by decide +kernel
theorem dL_law_1088 : decode cL_law 1088 = .ok (.iconst 0, 1) := by decide +kernel
theorem dL_law_1089 : decode cL_law 1089 = .ok (.ireturn, 1) := by decide +kernel
theorem dL_law_1090 : decode cL_law 1090 = .ok (.aload_n 1, 1) := by decide +kernel
theorem dL_law_1091 : decode cL_law 1091 = .ok (.aload_n 0, 1) := by decide +kernel
theorem dL_law_1092 : decode cL_law 1092 = .ok (.iload 4, 2) := by decide +kernel
theorem dL_law_1094 : decode cL_law 1094 = .ok (.iconst 1, 1) := by decide +kernel
theorem dL_law_1095 : decode cL_law 1095 = .ok (.iadd, 1) := by decide +kernel
theorem dL_law_1096 : decode cL_law 1096 = .ok (.iaload, 1) := by decide +kernel
theorem dL_law_1097 : decode cL_law 1097 = .ok (.aload_n 0, 1) := by decide +kernel
theorem dL_law_1098 : decode cL_law 1098 = .ok (.iload 4, 2) := by decide +kernel
theorem dL_law_1100 : decode cL_law 1100 = .ok (.iconst 2, 1) := by decide +kernel
theorem dL_law_1101 : decode cL_law 1101 = .ok (.iadd, 1) := by decide +kernel
theorem dL_law_1102 : decode cL_law 1102 = .ok (.iaload, 1) := by decide +kernel
theorem dL_law_1103 : decode cL_law 1103 = .ok (.aload_n 0, 1) := by decide +kernel
theorem dL_law_1104 : decode cL_law 1104 = .ok (.iload 4, 2) := by decide +kernel
theorem dL_law_1106 : decode cL_law 1106 = .ok (.iconst 3, 1) := by decide +kernel
theorem dL_law_1107 : decode cL_law 1107 = .ok (.iadd, 1) := by decide +kernel
theorem dL_law_1108 : decode cL_law 1108 = .ok (.iaload, 1) := by decide +kernel
theorem dL_law_1109 : decode cL_law 1109 = .ok (.invokevirtual 109, 3) := by decide +kernel
theorem dL_law_1112 : decode cL_law 1112 = .ok (.aload_n 2, 1) := by decide +kernel
theorem dL_law_1113 : decode cL_law 1113 = .ok (.aload_n 0, 1) := by decide +kernel
theorem dL_law_1114 : decode cL_law 1114 = .ok (.iload 4, 2) := by decide +kernel
theorem dL_law_1116 : decode cL_law 1116 = .ok (.iconst 1, 1) := by decide +kernel
theorem dL_law_1117 : decode cL_law 1117 = .ok (.iadd, 1) := by decide +kernel
theorem dL_law_1118 : decode cL_law 1118 = .ok (.iaload, 1) := by decide +kernel
theorem dL_law_1119 : decode cL_law 1119 = .ok (.aload_n 0, 1) := by decide +kernel
theorem dL_law_1120 : decode cL_law 1120 = .ok (.iload 4, 2) := by decide +kernel
theorem dL_law_1122 : decode cL_law 1122 = .ok (.iconst 2, 1) := by decide +kernel
theorem dL_law_1123 : decode cL_law 1123 = .ok (.iadd, 1) := by decide +kernel
theorem dL_law_1124 : decode cL_law 1124 = .ok (.iaload, 1) := by decide +kernel
theorem dL_law_1125 : decode cL_law 1125 = .ok (.aload_n 0, 1) := by decide +kernel
theorem dL_law_1126 : decode cL_law 1126 = .ok (.iload 4, 2) := by decide +kernel
theorem dL_law_1128 : decode cL_law 1128 = .ok (.iconst 3, 1) := by decide +kernel
theorem dL_law_1129 : decode cL_law 1129 = .ok (.iadd, 1) := by decide +kernel
theorem dL_law_1130 : decode cL_law 1130 = .ok (.iaload, 1) := by decide +kernel
theorem dL_law_1131 : decode cL_law 1131 = .ok (.invokevirtual 112, 3) := by decide +kernel
theorem dL_law_1134 : decode cL_law 1134 = .ok (.if_icmp .eq 957, 3) := by decide +kernel
theorem dL_law_1137 : decode cL_law 1137 = .ok (.iconst 0, 1) := by decide +kernel
theorem dL_law_1138 : decode cL_law 1138 = .ok (.ireturn, 1) := by decide +kernel
theorem dL_law_1139 : decode cL_law 1139 = .ok (.aload_n 1, 1) := by decide +kernel
theorem dL_law_1140 : decode cL_law 1140 = .ok (.aload_n 0, 1) := by decide +kernel
theorem dL_law_1141 : decode cL_law 1141 = .ok (.iload 4, 2) := by decide +kernel
theorem dL_law_1143 : decode cL_law 1143 = .ok (.iconst 1, 1) := by decide +kernel
theorem dL_law_1144 : decode cL_law 1144 = .ok (.iadd, 1) := by decide +kernel
theorem dL_law_1145 : decode cL_law 1145 = .ok (.iaload, 1) := by decide +kernel
theorem dL_law_1146 : decode cL_law 1146 = .ok (.invokevirtual 113, 3) := by decide +kernel
theorem dL_law_1149 : decode cL_law 1149 = .ok (.aload_n 2, 1) := by decide +kernel
theorem dL_law_1150 : decode cL_law 1150 = .ok (.aload_n 0, 1) := by decide +kernel
theorem dL_law_1151 : decode cL_law 1151 = .ok (.iload 4, 2) := by decide +kernel
theorem dL_law_1153 : decode cL_law 1153 = .ok (.iconst 1, 1) := by decide +kernel
theorem dL_law_1154 : decode cL_law 1154 = .ok (.iadd, 1) := by decide +kernel
theorem dL_law_1155 : decode cL_law 1155 = .ok (.iaload, 1) := by decide +kernel
theorem dL_law_1156 : decode cL_law 1156 = .ok (.invokevirtual 116, 3) := by decide +kernel
theorem dL_law_1159 : decode cL_law 1159 = .ok (.if_icmp .eq 932, 3) := by decide +kernel
theorem dL_law_1162 : decode cL_law 1162 = .ok (.iconst 0, 1) := by decide +kernel
theorem dL_law_1163 : decode cL_law 1163 = .ok (.ireturn, 1) := by decide +kernel
theorem dL_law_1164 : decode cL_law 1164 = .ok (.aload_n 1, 1) := by decide +kernel
theorem dL_law_1165 : decode cL_law 1165 = .ok (.aload_n 0, 1) := by decide +kernel
theorem dL_law_1166 : decode cL_law 1166 = .ok (.iload 4, 2) := by decide +kernel
theorem dL_law_1168 : decode cL_law 1168 = .ok (.iconst 1, 1) := by decide +kernel
theorem dL_law_1169 : decode cL_law 1169 = .ok (.iadd, 1) := by decide +kernel
theorem dL_law_1170 : decode cL_law 1170 = .ok (.iaload, 1) := by decide +kernel
theorem dL_law_1171 : decode cL_law 1171 = .ok (.invokevirtual 117, 3) := by decide +kernel
theorem dL_law_1174 : decode cL_law 1174 = .ok (.aload_n 2, 1) := by decide +kernel
theorem dL_law_1175 : decode cL_law 1175 = .ok (.aload_n 0, 1) := by decide +kernel
theorem dL_law_1176 : decode cL_law 1176 = .ok (.iload 4, 2) := by decide +kernel
theorem dL_law_1178 : decode cL_law 1178 = .ok (.iconst 1, 1) := by decide +kernel
theorem dL_law_1179 : decode cL_law 1179 = .ok (.iadd, 1) := by decide +kernel
theorem dL_law_1180 : decode cL_law 1180 = .ok (.iaload, 1) := by decide +kernel
theorem dL_law_1181 : decode cL_law 1181 = .ok (.invokevirtual 120, 3) := by decide +kernel
theorem dL_law_1184 : decode cL_law 1184 = .ok (.if_icmp .eq 907, 3) := by decide +kernel
theorem dL_law_1187 : decode cL_law 1187 = .ok (.iconst 0, 1) := by decide +kernel
theorem dL_law_1188 : decode cL_law 1188 = .ok (.ireturn, 1) := by decide +kernel
theorem dL_law_1189 : decode cL_law 1189 = .ok (.aload_n 1, 1) := by decide +kernel
theorem dL_law_1190 : decode cL_law 1190 = .ok (.aload_n 0, 1) := by decide +kernel
theorem dL_law_1191 : decode cL_law 1191 = .ok (.iload 4, 2) := by decide +kernel
theorem dL_law_1193 : decode cL_law 1193 = .ok (.iconst 1, 1) := by decide +kernel
theorem dL_law_1194 : decode cL_law 1194 = .ok (.iadd, 1) := by decide +kernel
theorem dL_law_1195 : decode cL_law 1195 = .ok (.iaload, 1) := by decide +kernel
theorem dL_law_1196 : decode cL_law 1196 = .ok (.aload_n 0, 1) := by decide +kernel
theorem dL_law_1197 : decode cL_law 1197 = .ok (.iload 4, 2) := by decide +kernel
theorem dL_law_1199 : decode cL_law 1199 = .ok (.iconst 2, 1) := by decide +kernel
theorem dL_law_1200 : decode cL_law 1200 = .ok (.iadd, 1) := by decide +kernel
theorem dL_law_1201 : decode cL_law 1201 = .ok (.iaload, 1) := by decide +kernel
theorem dL_law_1202 : decode cL_law 1202 = .ok (.invokevirtual 121, 3) := by decide +kernel
theorem dL_law_1205 : decode cL_law 1205 = .ok (.aload_n 2, 1) := by decide +kernel
theorem dL_law_1206 : decode cL_law 1206 = .ok (.aload_n 0, 1) := by decide +kernel
theorem dL_law_1207 : decode cL_law 1207 = .ok (.iload 4, 2) := by decide +kernel
theorem dL_law_1209 : decode cL_law 1209 = .ok (.iconst 1, 1) := by decide +kernel
theorem dL_law_1210 : decode cL_law 1210 = .ok (.iadd, 1) := by decide +kernel
theorem dL_law_1211 : decode cL_law 1211 = .ok (.iaload, 1) := by decide +kernel
theorem dL_law_1212 : decode cL_law 1212 = .ok (.aload_n 0, 1) := by decide +kernel
theorem dL_law_1213 : decode cL_law 1213 = .ok (.iload 4, 2) := by decide +kernel
theorem dL_law_1215 : decode cL_law 1215 = .ok (.iconst 2, 1) := by decide +kernel
theorem dL_law_1216 : decode cL_law 1216 = .ok (.iadd, 1) := by decide +kernel
theorem dL_law_1217 : decode cL_law 1217 = .ok (.iaload, 1) := by decide +kernel
theorem dL_law_1218 : decode cL_law 1218 = .ok (.invokevirtual 124, 3) := by decide +kernel
theorem dL_law_1221 : decode cL_law 1221 = .ok (.if_icmp .eq 870, 3) := by decide +kernel
theorem dL_law_1224 : decode cL_law 1224 = .ok (.iconst 0, 1) := by decide +kernel
theorem dL_law_1225 : decode cL_law 1225 = .ok (.ireturn, 1) := by decide +kernel
theorem dL_law_1226 : decode cL_law 1226 = .ok (.aload_n 1, 1) := by decide +kernel
theorem dL_law_1227 : decode cL_law 1227 = .ok (.aload_n 0, 1) := by decide +kernel
theorem dL_law_1228 : decode cL_law 1228 = .ok (.iload 4, 2) := by decide +kernel
theorem dL_law_1230 : decode cL_law 1230 = .ok (.iconst 1, 1) := by decide +kernel
theorem dL_law_1231 : decode cL_law 1231 = .ok (.iadd, 1) := by decide +kernel
theorem dL_law_1232 : decode cL_law 1232 = .ok (.iaload, 1) := by decide +kernel
theorem dL_law_1233 : decode cL_law 1233 = .ok (.aload_n 0, 1) := by decide +kernel
theorem dL_law_1234 : decode cL_law 1234 = .ok (.iload 4, 2) := by decide +kernel
theorem dL_law_1236 : decode cL_law 1236 = .ok (.iconst 2, 1) := by decide +kernel
theorem dL_law_1237 : decode cL_law 1237 = .ok (.iadd, 1) := by decide +kernel
theorem dL_law_1238 : decode cL_law 1238 = .ok (.iaload, 1) := by decide +kernel
theorem dL_law_1239 : decode cL_law 1239 = .ok (.invokevirtual 125, 3) := by decide +kernel
theorem dL_law_1242 : decode cL_law 1242 = .ok (.aload_n 2, 1) := by decide +kernel
theorem dL_law_1243 : decode cL_law 1243 = .ok (.aload_n 0, 1) := by decide +kernel
theorem dL_law_1244 : decode cL_law 1244 = .ok (.iload 4, 2) := by decide +kernel
theorem dL_law_1246 : decode cL_law 1246 = .ok (.iconst 1, 1) := by decide +kernel
theorem dL_law_1247 : decode cL_law 1247 = .ok (.iadd, 1) := by decide +kernel
theorem dL_law_1248 : decode cL_law 1248 = .ok (.iaload, 1) := by decide +kernel
theorem dL_law_1249 : decode cL_law 1249 = .ok (.aload_n 0, 1) := by decide +kernel
theorem dL_law_1250 : decode cL_law 1250 = .ok (.iload 4, 2) := by decide +kernel
theorem dL_law_1252 : decode cL_law 1252 = .ok (.iconst 2, 1) := by decide +kernel
theorem dL_law_1253 : decode cL_law 1253 = .ok (.iadd, 1) := by decide +kernel
theorem dL_law_1254 : decode cL_law 1254 = .ok (.iaload, 1) := by decide +kernel
theorem dL_law_1255 : decode cL_law 1255 = .ok (.invokevirtual 128, 3) := by decide +kernel
theorem dL_law_1258 : decode cL_law 1258 = .ok (.if_icmp .eq 833, 3) := by decide +kernel
theorem dL_law_1261 : decode cL_law 1261 = .ok (.iconst 0, 1) := by decide +kernel
theorem dL_law_1262 : decode cL_law 1262 = .ok (.ireturn, 1) := by decide +kernel
theorem dL_law_1263 : decode cL_law 1263 = .ok (.aload_n 1, 1) := by decide +kernel
theorem dL_law_1264 : decode cL_law 1264 = .ok (.aload_n 0, 1) := by decide +kernel
theorem dL_law_1265 : decode cL_law 1265 = .ok (.iload 4, 2) := by decide +kernel
theorem dL_law_1267 : decode cL_law 1267 = .ok (.iconst 1, 1) := by decide +kernel
theorem dL_law_1268 : decode cL_law 1268 = .ok (.iadd, 1) := by decide +kernel
theorem dL_law_1269 : decode cL_law 1269 = .ok (.iaload, 1) := by decide +kernel
theorem dL_law_1270 : decode cL_law 1270 = .ok (.aload_n 0, 1) := by decide +kernel
theorem dL_law_1271 : decode cL_law 1271 = .ok (.iload 4, 2) := by decide +kernel
theorem dL_law_1273 : decode cL_law 1273 = .ok (.iconst 2, 1) := by decide +kernel
theorem dL_law_1274 : decode cL_law 1274 = .ok (.iadd, 1) := by decide +kernel
theorem dL_law_1275 : decode cL_law 1275 = .ok (.iaload, 1) := by decide +kernel
theorem dL_law_1276 : decode cL_law 1276 = .ok (.aload_n 0, 1) := by decide +kernel
theorem dL_law_1277 : decode cL_law 1277 = .ok (.iload 4, 2) := by decide +kernel
theorem dL_law_1279 : decode cL_law 1279 = .ok (.iconst 3, 1) := by decide +kernel
theorem dL_law_1280 : decode cL_law 1280 = .ok (.iadd, 1) := by decide +kernel
theorem dL_law_1281 : decode cL_law 1281 = .ok (.iaload, 1) := by decide +kernel
theorem dL_law_1282 : decode cL_law 1282 = .ok (.aload_n 0, 1) := by decide +kernel
theorem dL_law_1283 : decode cL_law 1283 = .ok (.iload 4, 2) := by decide +kernel
theorem dL_law_1285 : decode cL_law 1285 = .ok (.iconst 4, 1) := by decide +kernel
theorem dL_law_1286 : decode cL_law 1286 = .ok (.iadd, 1) := by decide +kernel
theorem dL_law_1287 : decode cL_law 1287 = .ok (.iaload, 1) := by decide +kernel
theorem dL_law_1288 : decode cL_law 1288 = .ok (.aload_n 0, 1) := by decide +kernel
theorem dL_law_1289 : decode cL_law 1289 = .ok (.iload 4, 2) := by decide +kernel
theorem dL_law_1291 : decode cL_law 1291 = .ok (.iconst 5, 1) := by decide +kernel
theorem dL_law_1292 : decode cL_law 1292 = .ok (.iadd, 1) := by decide +kernel
theorem dL_law_1293 : decode cL_law 1293 = .ok (.iaload, 1) := by decide +kernel
theorem dL_law_1294 : decode cL_law 1294 = .ok (.invokevirtual 129, 3) := by decide +kernel
theorem dL_law_1297 : decode cL_law 1297 = .ok (.aload_n 2, 1) := by decide +kernel
theorem dL_law_1298 : decode cL_law 1298 = .ok (.aload_n 0, 1) := by decide +kernel
theorem dL_law_1299 : decode cL_law 1299 = .ok (.iload 4, 2) := by decide +kernel
theorem dL_law_1301 : decode cL_law 1301 = .ok (.iconst 1, 1) := by decide +kernel
theorem dL_law_1302 : decode cL_law 1302 = .ok (.iadd, 1) := by decide +kernel
theorem dL_law_1303 : decode cL_law 1303 = .ok (.iaload, 1) := by decide +kernel
theorem dL_law_1304 : decode cL_law 1304 = .ok (.aload_n 0, 1) := by decide +kernel
theorem dL_law_1305 : decode cL_law 1305 = .ok (.iload 4, 2) := by decide +kernel
theorem dL_law_1307 : decode cL_law 1307 = .ok (.iconst 2, 1) := by decide +kernel
theorem dL_law_1308 : decode cL_law 1308 = .ok (.iadd, 1) := by decide +kernel
theorem dL_law_1309 : decode cL_law 1309 = .ok (.iaload, 1) := by decide +kernel
theorem dL_law_1310 : decode cL_law 1310 = .ok (.aload_n 0, 1) := by decide +kernel
theorem dL_law_1311 : decode cL_law 1311 = .ok (.iload 4, 2) := by decide +kernel
theorem dL_law_1313 : decode cL_law 1313 = .ok (.iconst 3, 1) := by decide +kernel
theorem dL_law_1314 : decode cL_law 1314 = .ok (.iadd, 1) := by decide +kernel
theorem dL_law_1315 : decode cL_law 1315 = .ok (.iaload, 1) := by decide +kernel
theorem dL_law_1316 : decode cL_law 1316 = .ok (.aload_n 0, 1) := by decide +kernel
theorem dL_law_1317 : decode cL_law 1317 = .ok (.iload 4, 2) := by decide +kernel
theorem dL_law_1319 : decode cL_law 1319 = .ok (.iconst 4, 1) := by decide +kernel
theorem dL_law_1320 : decode cL_law 1320 = .ok (.iadd, 1) := by decide +kernel
theorem dL_law_1321 : decode cL_law 1321 = .ok (.iaload, 1) := by decide +kernel
theorem dL_law_1322 : decode cL_law 1322 = .ok (.aload_n 0, 1) := by decide +kernel
theorem dL_law_1323 : decode cL_law 1323 = .ok (.iload 4, 2) := by decide +kernel
theorem dL_law_1325 : decode cL_law 1325 = .ok (.iconst 5, 1) := by decide +kernel
theorem dL_law_1326 : decode cL_law 1326 = .ok (.iadd, 1) := by decide +kernel
theorem dL_law_1327 : decode cL_law 1327 = .ok (.iaload, 1) := by decide +kernel
theorem dL_law_1328 : decode cL_law 1328 = .ok (.invokevirtual 132, 3) := by decide +kernel
theorem dL_law_1331 : decode cL_law 1331 = .ok (.if_icmp .eq 760, 3) := by decide +kernel
theorem dL_law_1334 : decode cL_law 1334 = .ok (.iconst 0, 1) := by decide +kernel
theorem dL_law_1335 : decode cL_law 1335 = .ok (.ireturn, 1) := by decide +kernel
theorem dL_law_1336 : decode cL_law 1336 = .ok (.aload_n 1, 1) := by decide +kernel
theorem dL_law_1337 : decode cL_law 1337 = .ok (.aload_n 0, 1) := by decide +kernel
theorem dL_law_1338 : decode cL_law 1338 = .ok (.iload 4, 2) := by decide +kernel
theorem dL_law_1340 : decode cL_law 1340 = .ok (.iconst 1, 1) := by decide +kernel
theorem dL_law_1341 : decode cL_law 1341 = .ok (.iadd, 1) := by decide +kernel
theorem dL_law_1342 : decode cL_law 1342 = .ok (.iaload, 1) := by decide +kernel
theorem dL_law_1343 : decode cL_law 1343 = .ok (.aload_n 0, 1) := by decide +kernel
theorem dL_law_1344 : decode cL_law 1344 = .ok (.iload 4, 2) := by decide +kernel
theorem dL_law_1346 : decode cL_law 1346 = .ok (.iconst 2, 1) := by decide +kernel
theorem dL_law_1347 : decode cL_law 1347 = .ok (.iadd, 1) := by decide +kernel
theorem dL_law_1348 : decode cL_law 1348 = .ok (.iaload, 1) := by decide +kernel
theorem dL_law_1349 : decode cL_law 1349 = .ok (.invokevirtual 133, 3) := by decide +kernel
theorem dL_law_1352 : decode cL_law 1352 = .ok (.aload_n 2, 1) := by decide +kernel
theorem dL_law_1353 : decode cL_law 1353 = .ok (.aload_n 0, 1) := by decide +kernel
theorem dL_law_1354 : decode cL_law 1354 = .ok (.iload 4, 2) := by decide +kernel
theorem dL_law_1356 : decode cL_law 1356 = .ok (.iconst 1, 1) := by decide +kernel
theorem dL_law_1357 : decode cL_law 1357 = .ok (.iadd, 1) := by decide +kernel
theorem dL_law_1358 : decode cL_law 1358 = .ok (.iaload, 1) := by decide +kernel
theorem dL_law_1359 : decode cL_law 1359 = .ok (.aload_n 0, 1) := by decide +kernel
theorem dL_law_1360 : decode cL_law 1360 = .ok (.iload 4, 2) := by decide +kernel
theorem dL_law_1362 : decode cL_law 1362 = .ok (.iconst 2, 1) := by decide +kernel
theorem dL_law_1363 : decode cL_law 1363 = .ok (.iadd, 1) := by decide +kernel
theorem dL_law_1364 : decode cL_law 1364 = .ok (.iaload, 1) := by decide +kernel
theorem dL_law_1365 : decode cL_law 1365 = .ok (.invokevirtual 136, 3) := by decide +kernel
theorem dL_law_1368 : decode cL_law 1368 = .ok (.if_icmp .eq 723, 3) := by decide +kernel
theorem dL_law_1371 : decode cL_law 1371 = .ok (.iconst 0, 1) := by decide +kernel
theorem dL_law_1372 : decode cL_law 1372 = .ok (.ireturn, 1) := by decide +kernel
theorem dL_law_1373 : decode cL_law 1373 = .ok (.aload_n 1, 1) := by decide +kernel
theorem dL_law_1374 : decode cL_law 1374 = .ok (.aload_n 0, 1) := by decide +kernel
theorem dL_law_1375 : decode cL_law 1375 = .ok (.iload 4, 2) := by decide +kernel
theorem dL_law_1377 : decode cL_law 1377 = .ok (.iconst 1, 1) := by decide +kernel
theorem dL_law_1378 : decode cL_law 1378 = .ok (.iadd, 1) := by decide +kernel
theorem dL_law_1379 : decode cL_law 1379 = .ok (.iaload, 1) := by decide +kernel
theorem dL_law_1380 : decode cL_law 1380 = .ok (.aload_n 0, 1) := by decide +kernel
theorem dL_law_1381 : decode cL_law 1381 = .ok (.iload 4, 2) := by decide +kernel
theorem dL_law_1383 : decode cL_law 1383 = .ok (.iconst 2, 1) := by decide +kernel
theorem dL_law_1384 : decode cL_law 1384 = .ok (.iadd, 1) := by decide +kernel
theorem dL_law_1385 : decode cL_law 1385 = .ok (.iaload, 1) := by decide +kernel
theorem dL_law_1386 : decode cL_law 1386 = .ok (.invokevirtual 137, 3) := by decide +kernel
theorem dL_law_1389 : decode cL_law 1389 = .ok (.aload_n 2, 1) := by decide +kernel
theorem dL_law_1390 : decode cL_law 1390 = .ok (.aload_n 0, 1) := by decide +kernel
theorem dL_law_1391 : decode cL_law 1391 = .ok (.iload 4, 2) := by decide +kernel
theorem dL_law_1393 : decode cL_law 1393 = .ok (.iconst 1, 1) := by decide +kernel
theorem dL_law_1394 : decode cL_law 1394 = .ok (.iadd, 1) := by decide +kernel
theorem dL_law_1395 : decode cL_law 1395 = .ok (.iaload, 1) := by decide +kernel
theorem dL_law_1396 : decode cL_law 1396 = .ok (.aload_n 0, 1) := by decide +kernel
theorem dL_law_1397 : decode cL_law 1397 = .ok (.iload 4, 2) := by decide +kernel
theorem dL_law_1399 : decode cL_law 1399 = .ok (.iconst 2, 1) := by decide +kernel
theorem dL_law_1400 : decode cL_law 1400 = .ok (.iadd, 1) := by decide +kernel
theorem dL_law_1401 : decode cL_law 1401 = .ok (.iaload, 1) := by decide +kernel
theorem dL_law_1402 : decode cL_law 1402 = .ok (.invokevirtual 140, 3) := by decide +kernel
theorem dL_law_1405 : decode cL_law 1405 = .ok (.if_icmp .eq 686, 3) := by decide +kernel
theorem dL_law_1408 : decode cL_law 1408 = .ok (.iconst 0, 1) := by decide +kernel
theorem dL_law_1409 : decode cL_law 1409 = .ok (.ireturn, 1) := by decide +kernel
theorem dL_law_1410 : decode cL_law 1410 = .ok (.aload_n 1, 1) := by decide +kernel
theorem dL_law_1411 : decode cL_law 1411 = .ok (.aload_n 0, 1) := by decide +kernel
theorem dL_law_1412 : decode cL_law 1412 = .ok (.iload 4, 2) := by decide +kernel
theorem dL_law_1414 : decode cL_law 1414 = .ok (.iconst 1, 1) := by decide +kernel
theorem dL_law_1415 : decode cL_law 1415 = .ok (.iadd, 1) := by decide +kernel
theorem dL_law_1416 : decode cL_law 1416 = .ok (.iaload, 1) := by decide +kernel
theorem dL_law_1417 : decode cL_law 1417 = .ok (.aload_n 0, 1) := by decide +kernel
theorem dL_law_1418 : decode cL_law 1418 = .ok (.iload 4, 2) := by decide +kernel
theorem dL_law_1420 : decode cL_law 1420 = .ok (.iconst 2, 1) := by decide +kernel
theorem dL_law_1421 : decode cL_law 1421 = .ok (.iadd, 1) := by decide +kernel
theorem dL_law_1422 : decode cL_law 1422 = .ok (.iaload, 1) := by decide +kernel
theorem dL_law_1423 : decode cL_law 1423 = .ok (.aload_n 0, 1) := by decide +kernel
theorem dL_law_1424 : decode cL_law 1424 = .ok (.iload 4, 2) := by decide +kernel
theorem dL_law_1426 : decode cL_law 1426 = .ok (.iconst 3, 1) := by decide +kernel
theorem dL_law_1427 : decode cL_law 1427 = .ok (.iadd, 1) := by decide +kernel
theorem dL_law_1428 : decode cL_law 1428 = .ok (.iaload, 1) := by decide +kernel
theorem dL_law_1429 : decode cL_law 1429 = .ok (.invokevirtual 141, 3) := by decide +kernel
theorem dL_law_1432 : decode cL_law 1432 = .ok (.aload_n 2, 1) := by decide +kernel
theorem dL_law_1433 : decode cL_law 1433 = .ok (.aload_n 0, 1) := by decide +kernel
theorem dL_law_1434 : decode cL_law 1434 = .ok (.iload 4, 2) := by decide +kernel
theorem dL_law_1436 : decode cL_law 1436 = .ok (.iconst 1, 1) := by decide +kernel
theorem dL_law_1437 : decode cL_law 1437 = .ok (.iadd, 1) := by decide +kernel
theorem dL_law_1438 : decode cL_law 1438 = .ok (.iaload, 1) := by decide +kernel
theorem dL_law_1439 : decode cL_law 1439 = .ok (.aload_n 0, 1) := by decide +kernel
theorem dL_law_1440 : decode cL_law 1440 = .ok (.iload 4, 2) := by decide +kernel
theorem dL_law_1442 : decode cL_law 1442 = .ok (.iconst 2, 1) := by decide +kernel
theorem dL_law_1443 : decode cL_law 1443 = .ok (.iadd, 1) := by decide +kernel
theorem dL_law_1444 : decode cL_law 1444 = .ok (.iaload, 1) := by decide +kernel
theorem dL_law_1445 : decode cL_law 1445 = .ok (.aload_n 0, 1) := by decide +kernel
theorem dL_law_1446 : decode cL_law 1446 = .ok (.iload 4, 2) := by decide +kernel
theorem dL_law_1448 : decode cL_law 1448 = .ok (.iconst 3, 1) := by decide +kernel
theorem dL_law_1449 : decode cL_law 1449 = .ok (.iadd, 1) := by decide +kernel
theorem dL_law_1450 : decode cL_law 1450 = .ok (.iaload, 1) := by decide +kernel
theorem dL_law_1451 : decode cL_law 1451 = .ok (.invokevirtual 144, 3) := by decide +kernel
theorem dL_law_1454 : decode cL_law 1454 = .ok (.if_icmp .eq 637, 3) := by decide +kernel
theorem dL_law_1457 : decode cL_law 1457 = .ok (.iconst 0, 1) := by decide +kernel
theorem dL_law_1458 : decode cL_law 1458 = .ok (.ireturn, 1) := by decide +kernel
theorem dL_law_1459 : decode cL_law 1459 = .ok (.aload_n 1, 1) := by decide +kernel
theorem dL_law_1460 : decode cL_law 1460 = .ok (.aload_n 0, 1) := by decide +kernel
theorem dL_law_1461 : decode cL_law 1461 = .ok (.iload 4, 2) := by decide +kernel
theorem dL_law_1463 : decode cL_law 1463 = .ok (.iconst 1, 1) := by decide +kernel
theorem dL_law_1464 : decode cL_law 1464 = .ok (.iadd, 1) := by decide +kernel
theorem dL_law_1465 : decode cL_law 1465 = .ok (.iaload, 1) := by decide +kernel
theorem dL_law_1466 : decode cL_law 1466 = .ok (.aload_n 0, 1) := by decide +kernel
theorem dL_law_1467 : decode cL_law 1467 = .ok (.iload 4, 2) := by decide +kernel
theorem dL_law_1469 : decode cL_law 1469 = .ok (.iconst 2, 1) := by decide +kernel
theorem dL_law_1470 : decode cL_law 1470 = .ok (.iadd, 1) := by decide +kernel
theorem dL_law_1471 : decode cL_law 1471 = .ok (.iaload, 1) := by decide +kernel
theorem dL_law_1472 : decode cL_law 1472 = .ok (.invokevirtual 145, 3) := by decide +kernel
theorem dL_law_1475 : decode cL_law 1475 = .ok (.aload_n 2, 1) := by decide +kernel
theorem dL_law_1476 : decode cL_law 1476 = .ok (.aload_n 0, 1) := by decide +kernel
theorem dL_law_1477 : decode cL_law 1477 = .ok (.iload 4, 2) := by decide +kernel
theorem dL_law_1479 : decode cL_law 1479 = .ok (.iconst 1, 1) := by decide +kernel
theorem dL_law_1480 : decode cL_law 1480 = .ok (.iadd, 1) := by decide +kernel
theorem dL_law_1481 : decode cL_law 1481 = .ok (.iaload, 1) := by decide +kernel
theorem dL_law_1482 : decode cL_law 1482 = .ok (.aload_n 0, 1) := by decide +kernel
theorem dL_law_1483 : decode cL_law 1483 = .ok (.iload 4, 2) := by decide +kernel
theorem dL_law_1485 : decode cL_law 1485 = .ok (.iconst 2, 1) := by decide +kernel
theorem dL_law_1486 : decode cL_law 1486 = .ok (.iadd, 1) := by decide +kernel
theorem dL_law_1487 : decode cL_law 1487 = .ok (.iaload, 1) := by decide +kernel
theorem dL_law_1488 : decode cL_law 1488 = .ok (.invokevirtual 148, 3) := by decide +kernel
theorem dL_law_1491 : decode cL_law 1491 = .ok (.if_icmp .eq 600, 3) := by decide +kernel
theorem dL_law_1494 : decode cL_law 1494 = .ok (.iconst 0, 1) := by decide +kernel
theorem dL_law_1495 : decode cL_law 1495 = .ok (.ireturn, 1) := by decide +kernel
theorem dL_law_1496 : decode cL_law 1496 = .ok (.aload_n 1, 1) := by decide +kernel
theorem dL_law_1497 : decode cL_law 1497 = .ok (.aload_n 0, 1) := by decide +kernel
theorem dL_law_1498 : decode cL_law 1498 = .ok (.iload 4, 2) := by decide +kernel
theorem dL_law_1500 : decode cL_law 1500 = .ok (.iconst 1, 1) := by decide +kernel
theorem dL_law_1501 : decode cL_law 1501 = .ok (.iadd, 1) := by decide +kernel
theorem dL_law_1502 : decode cL_law 1502 = .ok (.iaload, 1) := by decide +kernel
theorem dL_law_1503 : decode cL_law 1503 = .ok (.aload_n 0, 1) := by decide +kernel
theorem dL_law_1504 : decode cL_law 1504 = .ok (.iload 4, 2) := by decide +kernel
theorem dL_law_1506 : decode cL_law 1506 = .ok (.iconst 2, 1) := by decide +kernel
theorem dL_law_1507 : decode cL_law 1507 = .ok (.iadd, 1) := by decide +kernel
theorem dL_law_1508 : decode cL_law 1508 = .ok (.iaload, 1) := by decide +kernel
theorem dL_law_1509 : decode cL_law 1509 = .ok (.aload_n 0, 1) := by decide +kernel
theorem dL_law_1510 : decode cL_law 1510 = .ok (.iload 4, 2) := by decide +kernel
theorem dL_law_1512 : decode cL_law 1512 = .ok (.iconst 3, 1) := by decide +kernel
theorem dL_law_1513 : decode cL_law 1513 = .ok (.iadd, 1) := by decide +kernel
theorem dL_law_1514 : decode cL_law 1514 = .ok (.iaload, 1) := by decide +kernel
theorem dL_law_1515 : decode cL_law 1515 = .ok (.invokevirtual 149, 3) := by decide +kernel
theorem dL_law_1518 : decode cL_law 1518 = .ok (.aload_n 2, 1) := by decide +kernel
theorem dL_law_1519 : decode cL_law 1519 = .ok (.aload_n 0, 1) := by decide +kernel
theorem dL_law_1520 : decode cL_law 1520 = .ok (.iload 4, 2) := by decide +kernel
theorem dL_law_1522 : decode cL_law 1522 = .ok (.iconst 1, 1) := by decide +kernel
theorem dL_law_1523 : decode cL_law 1523 = .ok (.iadd, 1) := by decide +kernel
theorem dL_law_1524 : decode cL_law 1524 = .ok (.iaload, 1) := by decide +kernel
theorem dL_law_1525 : decode cL_law 1525 = .ok (.aload_n 0, 1) := by decide +kernel
theorem dL_law_1526 : decode cL_law 1526 = .ok (.iload 4, 2) := by decide +kernel
theorem dL_law_1528 : decode cL_law 1528 = .ok (.iconst 2, 1) := by decide +kernel
theorem dL_law_1529 : decode cL_law 1529 = .ok (.iadd, 1) := by decide +kernel
theorem dL_law_1530 : decode cL_law 1530 = .ok (.iaload, 1) := by decide +kernel
theorem dL_law_1531 : decode cL_law 1531 = .ok (.aload_n 0, 1) := by decide +kernel
theorem dL_law_1532 : decode cL_law 1532 = .ok (.iload 4, 2) := by decide +kernel
theorem dL_law_1534 : decode cL_law 1534 = .ok (.iconst 3, 1) := by decide +kernel
theorem dL_law_1535 : decode cL_law 1535 = .ok (.iadd, 1) := by decide +kernel
theorem dL_law_1536 : decode cL_law 1536 = .ok (.iaload, 1) := by decide +kernel
theorem dL_law_1537 : decode cL_law 1537 = .ok (.invokevirtual 152, 3) := by decide +kernel
theorem dL_law_1540 : decode cL_law 1540 = .ok (.if_icmp .eq 551, 3) := by decide +kernel
theorem dL_law_1543 : decode cL_law 1543 = .ok (.iconst 0, 1) := by decide +kernel
theorem dL_law_1544 : decode cL_law 1544 = .ok (.ireturn, 1) := by decide +kernel
theorem dL_law_1545 : decode cL_law 1545 = .ok (.aload_n 1, 1) := by decide +kernel
theorem dL_law_1546 : decode cL_law 1546 = .ok (.aload_n 0, 1) := by decide +kernel
theorem dL_law_1547 : decode cL_law 1547 = .ok (.iload 4, 2) := by decide +kernel
theorem dL_law_1549 : decode cL_law 1549 = .ok (.iconst 1, 1) := by decide +kernel
theorem dL_law_1550 : decode cL_law 1550 = .ok (.iadd, 1) := by decide +kernel
theorem dL_law_1551 : decode cL_law 1551 = .ok (.iaload, 1) := by decide +kernel
theorem dL_law_1552 : decode cL_law 1552 = .ok (.invokevirtual 153, 3) := by decide +kernel
theorem dL_law_1555 : decode cL_law 1555 = .ok (.aload_n 2, 1) := by decide +kernel
theorem dL_law_1556 : decode cL_law 1556 = .ok (.aload_n 0, 1) := by decide +kernel
theorem dL_law_1557 : decode cL_law 1557 = .ok (.iload 4, 2) := by decide +kernel
theorem dL_law_1559 : decode cL_law 1559 = .ok (.iconst 1, 1) := by decide +kernel
theorem dL_law_1560 : decode cL_law 1560 = .ok (.iadd, 1) := by decide +kernel
theorem dL_law_1561 : decode cL_law 1561 = .ok (.iaload, 1) := by decide +kernel
theorem dL_law_1562 : decode cL_law 1562 = .ok (.invokevirtual 156, 3) := by decide +kernel
theorem dL_law_1565 : decode cL_law 1565 = .ok (.if_icmp .eq 526, 3) := by decide +kernel
theorem dL_law_1568 : decode cL_law 1568 = .ok (.iconst 0, 1) := by decide +kernel
theorem dL_law_1569 : decode cL_law 1569 = .ok (.ireturn, 1) := by decide +kernel
theorem dL_law_1570 : decode cL_law 1570 = .ok (.aload_n 1, 1) := by decide +kernel
theorem dL_law_1571 : decode cL_law 1571 = .ok (.aload_n 0, 1) := by decide +kernel
theorem dL_law_1572 : decode cL_law 1572 = .ok (.iload 4, 2) := by decide +kernel
theorem dL_law_1574 : decode cL_law 1574 = .ok (.iconst 1, 1) := by decide +kernel
theorem dL_law_1575 : decode cL_law 1575 = .ok (.iadd, 1) := by decide +kernel
theorem dL_law_1576 : decode cL_law 1576 = .ok (.iaload, 1) := by decide +kernel
theorem dL_law_1577 : decode cL_law 1577 = .ok (.invokevirtual 157, 3) := by decide +kernel
theorem dL_law_1580 : decode cL_law 1580 = .ok (.aload_n 2, 1) := by decide +kernel
theorem dL_law_1581 : decode cL_law 1581 = .ok (.aload_n 0, 1) := by decide +kernel
theorem dL_law_1582 : decode cL_law 1582 = .ok (.iload 4, 2) := by decide +kernel
theorem dL_law_1584 : decode cL_law 1584 = .ok (.iconst 1, 1) := by decide +kernel
theorem dL_law_1585 : decode cL_law 1585 = .ok (.iadd, 1) := by decide +kernel
theorem dL_law_1586 : decode cL_law 1586 = .ok (.iaload, 1) := by decide +kernel
theorem dL_law_1587 : decode cL_law 1587 = .ok (.invokevirtual 160, 3) := by decide +kernel
theorem dL_law_1590 : decode cL_law 1590 = .ok (.if_icmp .eq 501, 3) := by decide +kernel
theorem dL_law_1593 : decode cL_law 1593 = .ok (.iconst 0, 1) := by decide +kernel
theorem dL_law_1594 : decode cL_law 1594 = .ok (.ireturn, 1) := by decide +kernel
theorem dL_law_1595 : decode cL_law 1595 = .ok (.aload_n 1, 1) := by decide +kernel
theorem dL_law_1596 : decode cL_law 1596 = .ok (.aload_n 0, 1) := by decide +kernel
theorem dL_law_1597 : decode cL_law 1597 = .ok (.iload 4, 2) := by decide +kernel
theorem dL_law_1599 : decode cL_law 1599 = .ok (.iconst 1, 1) := by decide +kernel
theorem dL_law_1600 : decode cL_law 1600 = .ok (.iadd, 1) := by decide +kernel
theorem dL_law_1601 : decode cL_law 1601 = .ok (.iaload, 1) := by decide +kernel
theorem dL_law_1602 : decode cL_law 1602 = .ok (.aload_n 0, 1) := by decide +kernel
theorem dL_law_1603 : decode cL_law 1603 = .ok (.iload 4, 2) := by decide +kernel
theorem dL_law_1605 : decode cL_law 1605 = .ok (.iconst 2, 1) := by decide +kernel
theorem dL_law_1606 : decode cL_law 1606 = .ok (.iadd, 1) := by decide +kernel
theorem dL_law_1607 : decode cL_law 1607 = .ok (.iaload, 1) := by decide +kernel
theorem dL_law_1608 : decode cL_law 1608 = .ok (.invokevirtual 161, 3) := by decide +kernel
theorem dL_law_1611 : decode cL_law 1611 = .ok (.aload_n 2, 1) := by decide +kernel
theorem dL_law_1612 : decode cL_law 1612 = .ok (.aload_n 0, 1) := by decide +kernel
theorem dL_law_1613 : decode cL_law 1613 = .ok (.iload 4, 2) := by decide +kernel
theorem dL_law_1615 : decode cL_law 1615 = .ok (.iconst 1, 1) := by decide +kernel
theorem dL_law_1616 : decode cL_law 1616 = .ok (.iadd, 1) := by decide +kernel
theorem dL_law_1617 : decode cL_law 1617 = .ok (.iaload, 1) := by decide +kernel
theorem dL_law_1618 : decode cL_law 1618 = .ok (.aload_n 0, 1) := by decide +kernel
theorem dL_law_1619 : decode cL_law 1619 = .ok (.iload 4, 2) := by decide +kernel
theorem dL_law_1621 : decode cL_law 1621 = .ok (.iconst 2, 1) := by decide +kernel
theorem dL_law_1622 : decode cL_law 1622 = .ok (.iadd, 1) := by decide +kernel
theorem dL_law_1623 : decode cL_law 1623 = .ok (.iaload, 1) := by decide +kernel
theorem dL_law_1624 : decode cL_law 1624 = .ok (.invokevirtual 164, 3) := by decide +kernel
theorem dL_law_1627 : decode cL_law 1627 = .ok (.if_icmp .eq 464, 3) := by decide +kernel
theorem dL_law_1630 : decode cL_law 1630 = .ok (.iconst 0, 1) := by decide +kernel
theorem dL_law_1631 : decode cL_law 1631 = .ok (.ireturn, 1) := by decide +kernel
theorem dL_law_1632 : decode cL_law 1632 = .ok (.aload_n 1, 1) := by decide +kernel
theorem dL_law_1633 : decode cL_law 1633 = .ok (.aload_n 0, 1) := by decide +kernel
theorem dL_law_1634 : decode cL_law 1634 = .ok (.iload 4, 2) := by decide +kernel
theorem dL_law_1636 : decode cL_law 1636 = .ok (.iconst 1, 1) := by decide +kernel
theorem dL_law_1637 : decode cL_law 1637 = .ok (.iadd, 1) := by decide +kernel
theorem dL_law_1638 : decode cL_law 1638 = .ok (.iaload, 1) := by decide +kernel
theorem dL_law_1639 : decode cL_law 1639 = .ok (.aload_n 0, 1) := by decide +kernel
theorem dL_law_1640 : decode cL_law 1640 = .ok (.iload 4, 2) := by decide +kernel
theorem dL_law_1642 : decode cL_law 1642 = .ok (.iconst 2, 1) := by decide +kernel
theorem dL_law_1643 : decode cL_law 1643 = .ok (.iadd, 1) := by decide +kernel
theorem dL_law_1644 : decode cL_law 1644 = .ok (.iaload, 1) := by decide +kernel
theorem dL_law_1645 : decode cL_law 1645 = .ok (.invokevirtual 165, 3) := by decide +kernel
theorem dL_law_1648 : decode cL_law 1648 = .ok (.aload_n 2, 1) := by decide +kernel
theorem dL_law_1649 : decode cL_law 1649 = .ok (.aload_n 0, 1) := by decide +kernel
theorem dL_law_1650 : decode cL_law 1650 = .ok (.iload 4, 2) := by decide +kernel
theorem dL_law_1652 : decode cL_law 1652 = .ok (.iconst 1, 1) := by decide +kernel
theorem dL_law_1653 : decode cL_law 1653 = .ok (.iadd, 1) := by decide +kernel
theorem dL_law_1654 : decode cL_law 1654 = .ok (.iaload, 1) := by decide +kernel
theorem dL_law_1655 : decode cL_law 1655 = .ok (.aload_n 0, 1) := by decide +kernel
theorem dL_law_1656 : decode cL_law 1656 = .ok (.iload 4, 2) := by decide +kernel
theorem dL_law_1658 : decode cL_law 1658 = .ok (.iconst 2, 1) := by decide +kernel
theorem dL_law_1659 : decode cL_law 1659 = .ok (.iadd, 1) := by decide +kernel
theorem dL_law_1660 : decode cL_law 1660 = .ok (.iaload, 1) := by decide +kernel
theorem dL_law_1661 : decode cL_law 1661 = .ok (.invokevirtual 168, 3) := by decide +kernel
theorem dL_law_1664 : decode cL_law 1664 = .ok (.if_icmp .eq 427, 3) := by decide +kernel
theorem dL_law_1667 : decode cL_law 1667 = .ok (.iconst 0, 1) := by decide +kernel
theorem dL_law_1668 : decode cL_law 1668 = .ok (.ireturn, 1) := by decide +kernel
theorem dL_law_1669 : decode cL_law 1669 = .ok (.aload_n 1, 1) := by decide +kernel
theorem dL_law_1670 : decode cL_law 1670 = .ok (.aload_n 0, 1) := by decide +kernel
theorem dL_law_1671 : decode cL_law 1671 = .ok (.iload 4, 2) := by decide +kernel
theorem dL_law_1673 : decode cL_law 1673 = .ok (.iconst 1, 1) := by decide +kernel
theorem dL_law_1674 : decode cL_law 1674 = .ok (.iadd, 1) := by decide +kernel
theorem dL_law_1675 : decode cL_law 1675 = .ok (.iaload, 1) := by decide +kernel
theorem dL_law_1676 : decode cL_law 1676 = .ok (.aload_n 0, 1) := by decide +kernel
theorem dL_law_1677 : decode cL_law 1677 = .ok (.iload 4, 2) := by decide +kernel
theorem dL_law_1679 : decode cL_law 1679 = .ok (.iconst 2, 1) := by decide +kernel
theorem dL_law_1680 : decode cL_law 1680 = .ok (.iadd, 1) := by decide +kernel
theorem dL_law_1681 : decode cL_law 1681 = .ok (.iaload, 1) := by decide +kernel
theorem dL_law_1682 : decode cL_law 1682 = .ok (.invokevirtual 169, 3) := by decide +kernel
theorem dL_law_1685 : decode cL_law 1685 = .ok (.aload_n 2, 1) := by decide +kernel
theorem dL_law_1686 : decode cL_law 1686 = .ok (.aload_n 0, 1) := by decide +kernel
theorem dL_law_1687 : decode cL_law 1687 = .ok (.iload 4, 2) := by decide +kernel
theorem dL_law_1689 : decode cL_law 1689 = .ok (.iconst 1, 1) := by decide +kernel
theorem dL_law_1690 : decode cL_law 1690 = .ok (.iadd, 1) := by decide +kernel
theorem dL_law_1691 : decode cL_law 1691 = .ok (.iaload, 1) := by decide +kernel
theorem dL_law_1692 : decode cL_law 1692 = .ok (.aload_n 0, 1) := by decide +kernel
theorem dL_law_1693 : decode cL_law 1693 = .ok (.iload 4, 2) := by decide +kernel
theorem dL_law_1695 : decode cL_law 1695 = .ok (.iconst 2, 1) := by decide +kernel
theorem dL_law_1696 : decode cL_law 1696 = .ok (.iadd, 1) := by decide +kernel
theorem dL_law_1697 : decode cL_law 1697 = .ok (.iaload, 1) := by decide +kernel
theorem dL_law_1698 : decode cL_law 1698 = .ok (.invokevirtual 172, 3) := by decide +kernel
theorem dL_law_1701 : decode cL_law 1701 = .ok (.if_icmp .eq 390, 3) := by decide +kernel
theorem dL_law_1704 : decode cL_law 1704 = .ok (.iconst 0, 1) := by decide +kernel
theorem dL_law_1705 : decode cL_law 1705 = .ok (.ireturn, 1) := by decide +kernel
theorem dL_law_1706 : decode cL_law 1706 = .ok (.aload_n 1, 1) := by decide +kernel
theorem dL_law_1707 : decode cL_law 1707 = .ok (.aload_n 0, 1) := by decide +kernel
theorem dL_law_1708 : decode cL_law 1708 = .ok (.iload 4, 2) := by decide +kernel
theorem dL_law_1710 : decode cL_law 1710 = .ok (.iconst 1, 1) := by decide +kernel
theorem dL_law_1711 : decode cL_law 1711 = .ok (.iadd, 1) := by decide +kernel
theorem dL_law_1712 : decode cL_law 1712 = .ok (.iaload, 1) := by decide +kernel
theorem dL_law_1713 : decode cL_law 1713 = .ok (.aload_n 0, 1) := by decide +kernel
theorem dL_law_1714 : decode cL_law 1714 = .ok (.iload 4, 2) := by decide +kernel
theorem dL_law_1716 : decode cL_law 1716 = .ok (.iconst 2, 1) := by decide +kernel
theorem dL_law_1717 : decode cL_law 1717 = .ok (.iadd, 1) := by decide +kernel
theorem dL_law_1718 : decode cL_law 1718 = .ok (.iaload, 1) := by decide +kernel
theorem dL_law_1719 : decode cL_law 1719 = .ok (.invokevirtual 173, 3) := by decide +kernel
theorem dL_law_1722 : decode cL_law 1722 = .ok (.aload_n 2, 1) := by decide +kernel
theorem dL_law_1723 : decode cL_law 1723 = .ok (.aload_n 0, 1) := by decide +kernel
theorem dL_law_1724 : decode cL_law 1724 = .ok (.iload 4, 2) := by decide +kernel
theorem dL_law_1726 : decode cL_law 1726 = .ok (.iconst 1, 1) := by decide +kernel
theorem dL_law_1727 : decode cL_law 1727 = .ok (.iadd, 1) := by decide +kernel
theorem dL_law_1728 : decode cL_law 1728 = .ok (.iaload, 1) := by decide +kernel
theorem dL_law_1729 : decode cL_law 1729 = .ok (.aload_n 0, 1) := by decide +kernel
theorem dL_law_1730 : decode cL_law 1730 = .ok (.iload 4, 2) := by decide +kernel
theorem dL_law_1732 : decode cL_law 1732 = .ok (.iconst 2, 1) := by decide +kernel
theorem dL_law_1733 : decode cL_law 1733 = .ok (.iadd, 1) := by decide +kernel
theorem dL_law_1734 : decode cL_law 1734 = .ok (.iaload, 1) := by decide +kernel
theorem dL_law_1735 : decode cL_law 1735 = .ok (.invokevirtual 176, 3) := by decide +kernel
theorem dL_law_1738 : decode cL_law 1738 = .ok (.if_icmp .eq 353, 3) := by decide +kernel
theorem dL_law_1741 : decode cL_law 1741 = .ok (.iconst 0, 1) := by decide +kernel
theorem dL_law_1742 : decode cL_law 1742 = .ok (.ireturn, 1) := by decide +kernel
theorem dL_law_1743 : decode cL_law 1743 = .ok (.aload_n 1, 1) := by decide +kernel
theorem dL_law_1744 : decode cL_law 1744 = .ok (.aload_n 0, 1) := by decide +kernel
theorem dL_law_1745 : decode cL_law 1745 = .ok (.iload 4, 2) := by decide +kernel
theorem dL_law_1747 : decode cL_law 1747 = .ok (.iconst 1, 1) := by decide +kernel
theorem dL_law_1748 : decode cL_law 1748 = .ok (.iadd, 1) := by decide +kernel
theorem dL_law_1749 : decode cL_law 1749 = .ok (.iaload, 1) := by decide +kernel
theorem dL_law_1750 : decode cL_law 1750 = .ok (.aload_n 0, 1) := by decide +kernel
theorem dL_law_1751 : decode cL_law 1751 = .ok (.iload 4, 2) := by decide +kernel
theorem dL_law_1753 : decode cL_law 1753 = .ok (.iconst 2, 1) := by decide +kernel
theorem dL_law_1754 : decode cL_law 1754 = .ok (.iadd, 1) := by decide +kernel
theorem dL_law_1755 : decode cL_law 1755 = .ok (.iaload, 1) := by decide +kernel
theorem dL_law_1756 : decode cL_law 1756 = .ok (.invokevirtual 177, 3) := by decide +kernel
theorem dL_law_1759 : decode cL_law 1759 = .ok (.aload_n 2, 1) := by decide +kernel
theorem dL_law_1760 : decode cL_law 1760 = .ok (.aload_n 0, 1) := by decide +kernel
theorem dL_law_1761 : decode cL_law 1761 = .ok (.iload 4, 2) := by decide +kernel
theorem dL_law_1763 : decode cL_law 1763 = .ok (.iconst 1, 1) := by decide +kernel
theorem dL_law_1764 : decode cL_law 1764 = .ok (.iadd, 1) := by decide +kernel
theorem dL_law_1765 : decode cL_law 1765 = .ok (.iaload, 1) := by decide +kernel
theorem dL_law_1766 : decode cL_law 1766 = .ok (.aload_n 0, 1) := by decide +kernel
theorem dL_law_1767 : decode cL_law 1767 = .ok (.iload 4, 2) := by decide +kernel
theorem dL_law_1769 : decode cL_law 1769 = .ok (.iconst 2, 1) := by decide +kernel
theorem dL_law_1770 : decode cL_law 1770 = .ok (.iadd, 1) := by decide +kernel
theorem dL_law_1771 : decode cL_law 1771 = .ok (.iaload, 1) := by decide +kernel
theorem dL_law_1772 : decode cL_law 1772 = .ok (.invokevirtual 180, 3) := by decide +kernel
theorem dL_law_1775 : decode cL_law 1775 = .ok (.if_icmp .eq 316, 3) := by decide +kernel
theorem dL_law_1778 : decode cL_law 1778 = .ok (.iconst 0, 1) := by decide +kernel
theorem dL_law_1779 : decode cL_law 1779 = .ok (.ireturn, 1) := by decide +kernel
theorem dL_law_1780 : decode cL_law 1780 = .ok (.aload_n 1, 1) := by decide +kernel
theorem dL_law_1781 : decode cL_law 1781 = .ok (.aload_n 0, 1) := by decide +kernel
theorem dL_law_1782 : decode cL_law 1782 = .ok (.iload 4, 2) := by decide +kernel
theorem dL_law_1784 : decode cL_law 1784 = .ok (.iconst 1, 1) := by decide +kernel
theorem dL_law_1785 : decode cL_law 1785 = .ok (.iadd, 1) := by decide +kernel
theorem dL_law_1786 : decode cL_law 1786 = .ok (.iaload, 1) := by decide +kernel
theorem dL_law_1787 : decode cL_law 1787 = .ok (.aload_n 0, 1) := by decide +kernel
theorem dL_law_1788 : decode cL_law 1788 = .ok (.iload 4, 2) := by decide +kernel
theorem dL_law_1790 : decode cL_law 1790 = .ok (.iconst 2, 1) := by decide +kernel
theorem dL_law_1791 : decode cL_law 1791 = .ok (.iadd, 1) := by decide +kernel
theorem dL_law_1792 : decode cL_law 1792 = .ok (.iaload, 1) := by decide +kernel
theorem dL_law_1793 : decode cL_law 1793 = .ok (.invokevirtual 181, 3) := by decide +kernel
theorem dL_law_1796 : decode cL_law 1796 = .ok (.aload_n 2, 1) := by decide +kernel
theorem dL_law_1797 : decode cL_law 1797 = .ok (.aload_n 0, 1) := by decide +kernel
theorem dL_law_1798 : decode cL_law 1798 = .ok (.iload 4, 2) := by decide +kernel
theorem dL_law_1800 : decode cL_law 1800 = .ok (.iconst 1, 1) := by decide +kernel
theorem dL_law_1801 : decode cL_law 1801 = .ok (.iadd, 1) := by decide +kernel
theorem dL_law_1802 : decode cL_law 1802 = .ok (.iaload, 1) := by decide +kernel
theorem dL_law_1803 : decode cL_law 1803 = .ok (.aload_n 0, 1) := by decide +kernel
theorem dL_law_1804 : decode cL_law 1804 = .ok (.iload 4, 2) := by decide +kernel
theorem dL_law_1806 : decode cL_law 1806 = .ok (.iconst 2, 1) := by decide +kernel
theorem dL_law_1807 : decode cL_law 1807 = .ok (.iadd, 1) := by decide +kernel
theorem dL_law_1808 : decode cL_law 1808 = .ok (.iaload, 1) := by decide +kernel
theorem dL_law_1809 : decode cL_law 1809 = .ok (.invokevirtual 184, 3) := by decide +kernel
theorem dL_law_1812 : decode cL_law 1812 = .ok (.if_icmp .eq 279, 3) := by decide +kernel
theorem dL_law_1815 : decode cL_law 1815 = .ok (.iconst 0, 1) := by decide +kernel
theorem dL_law_1816 : decode cL_law 1816 = .ok (.ireturn, 1) := by decide +kernel
theorem dL_law_1817 : decode cL_law 1817 = .ok (.aload_n 1, 1) := by decide +kernel
theorem dL_law_1818 : decode cL_law 1818 = .ok (.aload_n 0, 1) := by decide +kernel
theorem dL_law_1819 : decode cL_law 1819 = .ok (.iload 4, 2) := by decide +kernel
theorem dL_law_1821 : decode cL_law 1821 = .ok (.iconst 1, 1) := by decide +kernel
theorem dL_law_1822 : decode cL_law 1822 = .ok (.iadd, 1) := by decide +kernel
theorem dL_law_1823 : decode cL_law 1823 = .ok (.iaload, 1) := by decide +kernel
theorem dL_law_1824 : decode cL_law 1824 = .ok (.invokevirtual 185, 3) := by decide +kernel
theorem dL_law_1827 : decode cL_law 1827 = .ok (.aload_n 2, 1) := by decide +kernel
theorem dL_law_1828 : decode cL_law 1828 = .ok (.aload_n 0, 1) := by decide +kernel
theorem dL_law_1829 : decode cL_law 1829 = .ok (.iload 4, 2) := by decide +kernel
theorem dL_law_1831 : decode cL_law 1831 = .ok (.iconst 1, 1) := by decide +kernel
theorem dL_law_1832 : decode cL_law 1832 = .ok (.iadd, 1) := by decide +kernel
theorem dL_law_1833 : decode cL_law 1833 = .ok (.iaload, 1) := by decide +kernel
theorem dL_law_1834 : decode cL_law 1834 = .ok (.invokevirtual 188, 3) := by decide +kernel
theorem dL_law_1837 : decode cL_law 1837 = .ok (.if_icmp .eq 254, 3) := by decide +kernel
theorem dL_law_1840 : decode cL_law 1840 = .ok (.iconst 0, 1) := by decide +kernel
theorem dL_law_1841 : decode cL_law 1841 = .ok (.ireturn, 1) := by decide +kernel
theorem dL_law_1842 : decode cL_law 1842 = .ok (.aload_n 1, 1) := by decide +kernel
theorem dL_law_1843 : decode cL_law 1843 = .ok (.aload_n 0, 1) := by decide +kernel
theorem dL_law_1844 : decode cL_law 1844 = .ok (.iload 4, 2) := by decide +kernel
theorem dL_law_1846 : decode cL_law 1846 = .ok (.iconst 1, 1) := by decide +kernel
theorem dL_law_1847 : decode cL_law 1847 = .ok (.iadd, 1) := by decide +kernel
theorem dL_law_1848 : decode cL_law 1848 = .ok (.iaload, 1) := by decide +kernel
theorem dL_law_1849 : decode cL_law 1849 = .ok (.aload_n 0, 1) := by decide +kernel
theorem dL_law_1850 : decode cL_law 1850 = .ok (.iload 4, 2) := by decide +kernel
theorem dL_law_1852 : decode cL_law 1852 = .ok (.iconst 2, 1) := by decide +kernel
theorem dL_law_1853 : decode cL_law 1853 = .ok (.iadd, 1) := by decide +kernel
theorem dL_law_1854 : decode cL_law 1854 = .ok (.iaload, 1) := by decide +kernel
theorem dL_law_1855 : decode cL_law 1855 = .ok (.invokevirtual 189, 3) := by decide +kernel
theorem dL_law_1858 : decode cL_law 1858 = .ok (.aload_n 2, 1) := by decide +kernel
theorem dL_law_1859 : decode cL_law 1859 = .ok (.aload_n 0, 1) := by decide +kernel
theorem dL_law_1860 : decode cL_law 1860 = .ok (.iload 4, 2) := by decide +kernel
theorem dL_law_1862 : decode cL_law 1862 = .ok (.iconst 1, 1) := by decide +kernel
theorem dL_law_1863 : decode cL_law 1863 = .ok (.iadd, 1) := by decide +kernel
theorem dL_law_1864 : decode cL_law 1864 = .ok (.iaload, 1) := by decide +kernel
theorem dL_law_1865 : decode cL_law 1865 = .ok (.aload_n 0, 1) := by decide +kernel
theorem dL_law_1866 : decode cL_law 1866 = .ok (.iload 4, 2) := by decide +kernel
theorem dL_law_1868 : decode cL_law 1868 = .ok (.iconst 2, 1) := by decide +kernel
theorem dL_law_1869 : decode cL_law 1869 = .ok (.iadd, 1) := by decide +kernel
theorem dL_law_1870 : decode cL_law 1870 = .ok (.iaload, 1) := by decide +kernel
theorem dL_law_1871 : decode cL_law 1871 = .ok (.invokevirtual 192, 3) := by decide +kernel
theorem dL_law_1874 : decode cL_law 1874 = .ok (.if_icmp .eq 217, 3) := by decide +kernel
theorem dL_law_1877 : decode cL_law 1877 = .ok (.iconst 0, 1) := by decide +kernel
theorem dL_law_1878 : decode cL_law 1878 = .ok (.ireturn, 1) := by decide +kernel
theorem dL_law_1879 : decode cL_law 1879 = .ok (.aload_n 1, 1) := by decide +kernel
theorem dL_law_1880 : decode cL_law 1880 = .ok (.aload_n 0, 1) := by decide +kernel
theorem dL_law_1881 : decode cL_law 1881 = .ok (.iload 4, 2) := by decide +kernel
theorem dL_law_1883 : decode cL_law 1883 = .ok (.iconst 1, 1) := by decide +kernel
theorem dL_law_1884 : decode cL_law 1884 = .ok (.iadd, 1) := by decide +kernel
theorem dL_law_1885 : decode cL_law 1885 = .ok (.iaload, 1) := by decide +kernel
theorem dL_law_1886 : decode cL_law 1886 = .ok (.invokevirtual 193, 3) := by decide +kernel
theorem dL_law_1889 : decode cL_law 1889 = .ok (.aload_n 2, 1) := by decide +kernel
theorem dL_law_1890 : decode cL_law 1890 = .ok (.aload_n 0, 1) := by decide +kernel
theorem dL_law_1891 : decode cL_law 1891 = .ok (.iload 4, 2) := by decide +kernel
theorem dL_law_1893 : decode cL_law 1893 = .ok (.iconst 1, 1) := by decide +kernel
theorem dL_law_1894 : decode cL_law 1894 = .ok (.iadd, 1) := by decide +kernel
theorem dL_law_1895 : decode cL_law 1895 = .ok (.iaload, 1) := by decide +kernel
theorem dL_law_1896 : decode cL_law 1896 = .ok (.invokevirtual 196, 3) := by decide +kernel
theorem dL_law_1899 : decode cL_law 1899 = .ok (.if_icmp .eq 192, 3) := by decide +kernel
theorem dL_law_1902 : decode cL_law 1902 = .ok (.iconst 0, 1) := by decide +kernel
theorem dL_law_1903 : decode cL_law 1903 = .ok (.ireturn, 1) := by decide +kernel
theorem dL_law_1904 : decode cL_law 1904 = .ok (.aload_n 1, 1) := by decide +kernel
theorem dL_law_1905 : decode cL_law 1905 = .ok (.aload_n 0, 1) := by decide +kernel
theorem dL_law_1906 : decode cL_law 1906 = .ok (.iload 4, 2) := by decide +kernel
theorem dL_law_1908 : decode cL_law 1908 = .ok (.iconst 1, 1) := by decide +kernel
theorem dL_law_1909 : decode cL_law 1909 = .ok (.iadd, 1) := by decide +kernel
theorem dL_law_1910 : decode cL_law 1910 = .ok (.iaload, 1) := by decide +kernel
theorem dL_law_1911 : decode cL_law 1911 = .ok (.aload_n 0, 1) := by decide +kernel
theorem dL_law_1912 : decode cL_law 1912 = .ok (.iload 4, 2) := by decide +kernel
theorem dL_law_1914 : decode cL_law 1914 = .ok (.iconst 2, 1) := by decide +kernel
theorem dL_law_1915 : decode cL_law 1915 = .ok (.iadd, 1) := by decide +kernel
theorem dL_law_1916 : decode cL_law 1916 = .ok (.iaload, 1) := by decide +kernel
theorem dL_law_1917 : decode cL_law 1917 = .ok (.aload_n 0, 1) := by decide +kernel
theorem dL_law_1918 : decode cL_law 1918 = .ok (.iload 4, 2) := by decide +kernel
theorem dL_law_1920 : decode cL_law 1920 = .ok (.iconst 3, 1) := by decide +kernel
theorem dL_law_1921 : decode cL_law 1921 = .ok (.iadd, 1) := by decide +kernel
theorem dL_law_1922 : decode cL_law 1922 = .ok (.iaload, 1) := by decide +kernel
theorem dL_law_1923 : decode cL_law 1923 = .ok (.invokevirtual 197, 3) := by decide +kernel
theorem dL_law_1926 : decode cL_law 1926 = .ok (.aload_n 2, 1) := by decide +kernel
theorem dL_law_1927 : decode cL_law 1927 = .ok (.aload_n 0, 1) := by decide +kernel
theorem dL_law_1928 : decode cL_law 1928 = .ok (.iload 4, 2) := by decide +kernel
theorem dL_law_1930 : decode cL_law 1930 = .ok (.iconst 1, 1) := by decide +kernel
theorem dL_law_1931 : decode cL_law 1931 = .ok (.iadd, 1) := by decide +kernel
theorem dL_law_1932 : decode cL_law 1932 = .ok (.iaload, 1) := by decide +kernel
theorem dL_law_1933 : decode cL_law 1933 = .ok (.aload_n 0, 1) := by decide +kernel
theorem dL_law_1934 : decode cL_law 1934 = .ok (.iload 4, 2) := by decide +kernel
theorem dL_law_1936 : decode cL_law 1936 = .ok (.iconst 2, 1) := by decide +kernel
theorem dL_law_1937 : decode cL_law 1937 = .ok (.iadd, 1) := by decide +kernel
theorem dL_law_1938 : decode cL_law 1938 = .ok (.iaload, 1) := by decide +kernel
theorem dL_law_1939 : decode cL_law 1939 = .ok (.aload_n 0, 1) := by decide +kernel
theorem dL_law_1940 : decode cL_law 1940 = .ok (.iload 4, 2) := by decide +kernel
theorem dL_law_1942 : decode cL_law 1942 = .ok (.iconst 3, 1) := by decide +kernel
theorem dL_law_1943 : decode cL_law 1943 = .ok (.iadd, 1) := by decide +kernel
theorem dL_law_1944 : decode cL_law 1944 = .ok (.iaload, 1) := by decide +kernel
theorem dL_law_1945 : decode cL_law 1945 = .ok (.invokevirtual 200, 3) := by decide +kernel
theorem dL_law_1948 : decode cL_law 1948 = .ok (.if_icmp .eq 143, 3) := by decide +kernel
theorem dL_law_1951 : decode cL_law 1951 = .ok (.iconst 0, 1) := by decide +kernel
theorem dL_law_1952 : decode cL_law 1952 = .ok (.ireturn, 1) := by decide +kernel
theorem dL_law_1953 : decode cL_law 1953 = .ok (.aload_n 1, 1) := by decide +kernel
theorem dL_law_1954 : decode cL_law 1954 = .ok (.aload_n 0, 1) := by decide +kernel
theorem dL_law_1955 : decode cL_law 1955 = .ok (.iload 4, 2) := by decide +kernel
theorem dL_law_1957 : decode cL_law 1957 = .ok (.iconst 1, 1) := by decide +kernel
theorem dL_law_1958 : decode cL_law 1958 = .ok (.iadd, 1) := by decide +kernel
theorem dL_law_1959 : decode cL_law 1959 = .ok (.iaload, 1) := by decide +kernel
theorem dL_law_1960 : decode cL_law 1960 = .ok (.aload_n 0, 1) := by decide +kernel
theorem dL_law_1961 : decode cL_law 1961 = .ok (.iload 4, 2) := by decide +kernel
theorem dL_law_1963 : decode cL_law 1963 = .ok (.iconst 2, 1) := by decide +kernel
theorem dL_law_1964 : decode cL_law 1964 = .ok (.iadd, 1) := by decide +kernel
theorem dL_law_1965 : decode cL_law 1965 = .ok (.iaload, 1) := by decide +kernel
theorem dL_law_1966 : decode cL_law 1966 = .ok (.aload_n 0, 1) := by decide +kernel
theorem dL_law_1967 : decode cL_law 1967 = .ok (.iload 4, 2) := by decide +kernel
theorem dL_law_1969 : decode cL_law 1969 = .ok (.iconst 3, 1) := by decide +kernel
theorem dL_law_1970 : decode cL_law 1970 = .ok (.iadd, 1) := by decide +kernel
theorem dL_law_1971 : decode cL_law 1971 = .ok (.iaload, 1) := by decide +kernel
theorem dL_law_1972 : decode cL_law 1972 = .ok (.invokevirtual 201, 3) := by decide +kernel
theorem dL_law_1975 : decode cL_law 1975 = .ok (.aload_n 2, 1) := by decide +kernel
theorem dL_law_1976 : decode cL_law 1976 = .ok (.aload_n 0, 1) := by decide +kernel
theorem dL_law_1977 : decode cL_law 1977 = .ok (.iload 4, 2) := by decide +kernel
theorem dL_law_1979 : decode cL_law 1979 = .ok (.iconst 1, 1) := by decide +kernel
theorem dL_law_1980 : decode cL_law 1980 = .ok (.iadd, 1) := by decide +kernel
theorem dL_law_1981 : decode cL_law 1981 = .ok (.iaload, 1) := by decide +kernel
theorem dL_law_1982 : decode cL_law 1982 = .ok (.aload_n 0, 1) := by decide +kernel
theorem dL_law_1983 : decode cL_law 1983 = .ok (.iload 4, 2) := by decide +kernel
theorem dL_law_1985 : decode cL_law 1985 = .ok (.iconst 2, 1) := by decide +kernel
theorem dL_law_1986 : decode cL_law 1986 = .ok (.iadd, 1) := by decide +kernel
theorem dL_law_1987 : decode cL_law 1987 = .ok (.iaload, 1) := by decide +kernel
theorem dL_law_1988 : decode cL_law 1988 = .ok (.aload_n 0, 1) := by decide +kernel
theorem dL_law_1989 : decode cL_law 1989 = .ok (.iload 4, 2) := by decide +kernel
theorem dL_law_1991 : decode cL_law 1991 = .ok (.iconst 3, 1) := by decide +kernel
theorem dL_law_1992 : decode cL_law 1992 = .ok (.iadd, 1) := by decide +kernel
theorem dL_law_1993 : decode cL_law 1993 = .ok (.iaload, 1) := by decide +kernel
theorem dL_law_1994 : decode cL_law 1994 = .ok (.invokevirtual 204, 3) := by decide +kernel
theorem dL_law_1997 : decode cL_law 1997 = .ok (.if_icmp .eq 94, 3) := by decide +kernel
theorem dL_law_2000 : decode cL_law 2000 = .ok (.iconst 0, 1) := by decide +kernel
theorem dL_law_2001 : decode cL_law 2001 = .ok (.ireturn, 1) := by decide +kernel
theorem dL_law_2002 : decode cL_law 2002 = .ok (.aload_n 1, 1) := by decide +kernel
theorem dL_law_2003 : decode cL_law 2003 = .ok (.aload_n 0, 1) := by decide +kernel
theorem dL_law_2004 : decode cL_law 2004 = .ok (.iload 4, 2) := by decide +kernel
theorem dL_law_2006 : decode cL_law 2006 = .ok (.iconst 1, 1) := by decide +kernel
theorem dL_law_2007 : decode cL_law 2007 = .ok (.iadd, 1) := by decide +kernel
theorem dL_law_2008 : decode cL_law 2008 = .ok (.iaload, 1) := by decide +kernel
theorem dL_law_2009 : decode cL_law 2009 = .ok (.invokevirtual 205, 3) := by decide +kernel
theorem dL_law_2012 : decode cL_law 2012 = .ok (.aload_n 2, 1) := by decide +kernel
theorem dL_law_2013 : decode cL_law 2013 = .ok (.aload_n 0, 1) := by decide +kernel
theorem dL_law_2014 : decode cL_law 2014 = .ok (.iload 4, 2) := by decide +kernel
theorem dL_law_2016 : decode cL_law 2016 = .ok (.iconst 1, 1) := by decide +kernel
theorem dL_law_2017 : decode cL_law 2017 = .ok (.iadd, 1) := by decide +kernel
theorem dL_law_2018 : decode cL_law 2018 = .ok (.iaload, 1) := by decide +kernel
theorem dL_law_2019 : decode cL_law 2019 = .ok (.invokevirtual 208, 3) := by decide +kernel
theorem dL_law_2022 : decode cL_law 2022 = .ok (.if_icmp .eq 69, 3) := by decide +kernel
theorem dL_law_2025 : decode cL_law 2025 = .ok (.iconst 0, 1) := by decide +kernel
theorem dL_law_2026 : decode cL_law 2026 = .ok (.ireturn, 1) := by decide +kernel
theorem dL_law_2027 : decode cL_law 2027 = .ok (.aload_n 1, 1) := by decide +kernel
theorem dL_law_2028 : decode cL_law 2028 = .ok (.invokevirtual 209, 3) := by decide +kernel
theorem dL_law_2031 : decode cL_law 2031 = .ok (.aload_n 2, 1) := by decide +kernel
theorem dL_law_2032 : decode cL_law 2032 = .ok (.invokevirtual 212, 3) := by decide +kernel
theorem dL_law_2035 : decode cL_law 2035 = .ok (.if_icmp .eq 56, 3) := by decide +kernel
theorem dL_law_2038 : decode cL_law 2038 = .ok (.iconst 0, 1) := by decide +kernel
theorem dL_law_2039 : decode cL_law 2039 = .ok (.ireturn, 1) := by decide +kernel
theorem dL_law_2040 : decode cL_law 2040 = .ok (.aload_n 1, 1) := by decide +kernel
theorem dL_law_2041 : decode cL_law 2041 = .ok (.invokevirtual 213, 3) := by decide +kernel
theorem dL_law_2044 : decode cL_law 2044 = .ok (.aload_n 2, 1) := by decide +kernel
theorem dL_law_2045 : decode cL_law 2045 = .ok (.invokevirtual 216, 3) := by decide +kernel
theorem dL_law_2048 : decode cL_law 2048 = .ok (.if_icmp .eq 43, 3) := by decide +kernel
theorem dL_law_2051 : decode cL_law 2051 = .ok (.iconst 0, 1) := by decide +kernel
theorem dL_law_2052 : decode cL_law 2052 = .ok (.ireturn, 1) := by decide +kernel
theorem dL_law_2053 : decode cL_law 2053 = .ok (.aload_n 1, 1) := by decide +kernel
theorem dL_law_2054 : decode cL_law 2054 = .ok (.invokevirtual 217, 3) := by decide +kernel
theorem dL_law_2057 : decode cL_law 2057 = .ok (.aload_n 2, 1) := by decide +kernel
theorem dL_law_2058 : decode cL_law 2058 = .ok (.invokevirtual 220, 3) := by decide +kernel
theorem dL_law_2061 : decode cL_law 2061 = .ok (.if_icmp .eq 30, 3) := by decide +kernel
theorem dL_law_2064 : decode cL_law 2064 = .ok (.iconst 0, 1) := by decide +kernel
theorem dL_law_2065 : decode cL_law 2065 = .ok (.ireturn, 1) := by decide +kernel
theorem dL_law_2066 : decode cL_law 2066 = .ok (.aload_n 1, 1) := by decide +kernel
theorem dL_law_2067 : decode cL_law 2067 = .ok (.aload_n 0, 1) := by decide +kernel
theorem dL_law_2068 : decode cL_law 2068 = .ok (.iload 4, 2) := by decide +kernel
theorem dL_law_2070 : decode cL_law 2070 = .ok (.iconst 1, 1) := by decide +kernel
theorem dL_law_2071 : decode cL_law 2071 = .ok (.iadd, 1) := by decide +kernel
theorem dL_law_2072 : decode cL_law 2072 = .ok (.iaload, 1) := by decide +kernel
theorem dL_law_2073 : decode cL_law 2073 = .ok (.invokevirtual 221, 3) := by decide +kernel
theorem dL_law_2076 : decode cL_law 2076 = .ok (.aload_n 2, 1) := by decide +kernel
theorem dL_law_2077 : decode cL_law 2077 = .ok (.aload_n 0, 1) := by decide +kernel
theorem dL_law_2078 : decode cL_law 2078 = .ok (.iload 4, 2) := by decide +kernel
theorem dL_law_2080 : decode cL_law 2080 = .ok (.iconst 1, 1) := by decide +kernel
theorem dL_law_2081 : decode cL_law 2081 = .ok (.iadd, 1) := by decide +kernel
theorem dL_law_2082 : decode cL_law 2082 = .ok (.iaload, 1) := by decide +kernel
theorem dL_law_2083 : decode cL_law 2083 = .ok (.invokevirtual 224, 3) := by decide +kernel
theorem dL_law_2086 : decode cL_law 2086 = .ok (.if_icmp .eq 5, 3) := by decide +kernel
theorem dL_law_2089 : decode cL_law 2089 = .ok (.iconst 0, 1) := by decide +kernel
theorem dL_law_2090 : decode cL_law 2090 = .ok (.ireturn, 1) := by decide +kernel
theorem dL_law_2091 : decode cL_law 2091 = .ok (.iinc 4 6, 3) := by decide +kernel
theorem dL_law_2094 : decode cL_law 2094 = .ok (.goto (-2071), 3) := by decide +kernel
theorem dL_law_2097 : decode cL_law 2097 = .ok (.iconst 1, 1) := by decide +kernel
theorem dL_law_2098 : decode cL_law 2098 = .ok (.ireturn, 1) := by decide +kernel
