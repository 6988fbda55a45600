theorem dX5_feed_24 : decode cX5_feed 24 = .ok (.bipush (-2), 2) := by decide +kernel
theorem dX5_feed_26 : decode cX5_feed 26 = .ok (.ireturn, 1) := by decide +kernel
theorem dX5_feed_27 : decode cX5_feed 27 = .ok (.iconst 0, 1) := by decide +kernel
theorem dX5_feed_28 : decode cX5_feed 28 = .ok (.istore 4, 2) := by decide +kernel
theorem dX5_feed_30 : decode cX5_feed 30 = .ok (.iload 4, 2) := by decide +kernel
theorem dX5_feed_32 : decode cX5_feed 32 = .ok (.iload_n 3, 1) := by decide +kernel
theorem dX5_feed_33 : decode cX5_feed 33 = .ok (.if_icmp .ge 40, 3) := by decide +kernel
theorem dX5_feed_36 : decode cX5_feed 36 = .ok (.aload_n 0, 1) := by decide +kernel
theorem dX5_feed_37 : decode cX5_feed 37 = .ok (.getfield 22, 3) := by decide +kernel
theorem dX5_feed_40 : decode cX5_feed 40 = .ok (.aload_n 0, 1) := by decide +kernel
theorem dX5_feed_41 : decode cX5_feed 41 = .ok (.getfield 64, 3) := by decide +kernel
theorem dX5_feed_44 : decode cX5_feed 44 = .ok (.lload_n 1, 1) := by decide +kernel
theorem dX5_feed_45 : decode cX5_feed 45 = .ok (.bipush 8, 2) := by decide +kernel
theorem dX5_feed_47 : decode cX5_feed 47 = .ok (.iload 4, 2) := by decide +kernel
theorem dX5_feed_49 : decode cX5_feed 49 = .ok (.imul, 1) := by decide +kernel
theorem dX5_feed_50 : decode cX5_feed 50 = .ok (.lshr, 1) := by decide +kernel
theorem dX5_feed_51 : decode cX5_feed 51 = .ok (.ldc2_w 68, 3) := by decide +kernel
theorem dX5_feed_54 : decode cX5_feed 54 = .ok (.land, 1) := by decide +kernel
theorem dX5_feed_55 : decode cX5_feed 55 = .ok (.l2i, 1) := by decide +kernel
theorem dX5_feed_56 : decode cX5_feed 56 = .ok (.iastore, 1) := by decide +kernel
theorem dX5_feed_57 : decode cX5_feed 57 = .ok (.aload_n 0, 1) := by decide +kernel
theorem dX5_feed_58 : decode cX5_feed 58 = .ok (.dup, 1) := by decide +kernel
theorem dX5_feed_59 : decode cX5_feed 59 = .ok (.getfield 64, 3) := by decide +kernel
theorem dX5_feed_62 : decode cX5_feed 62 = .ok (.iconst 1, 1) := by decide +kernel
theorem dX5_feed_63 : decode cX5_feed 63 = .ok (.iadd, 1) := by decide +kernel
theorem dX5_feed_64 : decode cX5_feed 64 = .ok (.putfield 64, 3) := by decide +kernel
theorem dX5_feed_67 : decode cX5_feed 67 = .ok (.iinc 4 1, 3) := by decide +kernel
theorem dX5_feed_70 : decode cX5_feed 70 = .ok (.goto (-40), 3) := by decide +kernel
theorem dX5_feed_73 : decode cX5_feed 73 = .ok (.aload_n 0, 1) := by decide +kernel
theorem dX5_feed_74 : decode cX5_feed 74 = .ok (.getfield 64, 3) := by decide +kernel
theorem dX5_feed_77 : decode cX5_feed 77 = .ok (.ireturn, 1) := by decide +kernel
theorem dX5_byteAt_0 : decode cX5_byteAt 0 = .ok (.iload_n 1, 1) := by decide +kernel
theorem dX5_byteAt_1 : decode cX5_byteAt 1 = .ok (.aload_n 0, 1) := by decide +kernel
theorem dX5_byteAt_2 : decode cX5_byteAt 2 = .ok (.getfield 64, 3) := by decide +kernel
theorem dX5_byteAt_5 : decode cX5_byteAt 5 = .ok (.if_icmp .ge 12, 3) := by decide +kernel
theorem dX5_byteAt_8 : decode cX5_byteAt 8 = .ok (.aload_n 0, 1) := by decide +kernel
theorem dX5_byteAt_9 : decode cX5_byteAt 9 = .ok (.getfield 22, 3) := by decide +kernel
theorem dX5_byteAt_12 : decode cX5_byteAt 12 = .ok (.iload_n 1, 1) := by decide +kernel
theorem dX5_byteAt_13 : decode cX5_byteAt 13 = .ok (.iaload, 1) := by decide +kernel
theorem dX5_byteAt_14 : decode cX5_byteAt 14 = .ok (.goto 4, 3) := by decide +kernel
theorem dX5_byteAt_17 : decode cX5_byteAt 17 = .ok (.iconst (-1), 1) := by decide +kernel
theorem dX5_byteAt_18 : decode cX5_byteAt 18 = .ok (.ireturn, 1) := by decide +kernel
set_option maxRecDepth 20000 in
theorem ggX5_isLetter_X5_in : GoodIn wsX5_isLetter wsX5_in := goodIn_r _ [4] (by decide +kernel) (by decide +kernel)
set_option maxRecDepth 20000 in
theorem gX5_isLetter_X5_in : GoodIn wsX5_isLetter (va_wsS RX5 60 yX5_in wsX5_in) := goodIn_app (goodIn_of _ (by decide +kernel)) ggX5_isLetter_X5_in
theorem dX5_isLetter_0 : decode cX5_isLetter 0 = .ok (.iload_n 0, 1) := by decide +kernel
theorem dX5_isLetter_1 : decode cX5_isLetter 1 = .ok (.bipush 97, 2) := by decide +kernel
theorem dX5_isLetter_3 : decode cX5_isLetter 3 = .ok (.bipush 122, 2) := by decide +kernel
theorem dX5_isLetter_5 : decode cX5_isLetter 5 = .ok (.invokestatic 60, 3) := by decide +kernel
theorem dX5_isLetter_8 : decode cX5_isLetter 8 = .ok (.ireturn, 1) := by decide +kernel
set_option maxRecDepth 20000 in
theorem ggX5_isDigit_X5_in : GoodIn wsX5_isDigit wsX5_in := goodIn_r _ [4] (by decide +kernel) (by decide +kernel)
set_option maxRecDepth 20000 in
theorem gX5_isDigit_X5_in : GoodIn wsX5_isDigit (va_wsS RX5 60 yX5_in wsX5_in) := goodIn_app (goodIn_of _ (by decide +kernel)) ggX5_isDigit_X5_in
theorem dX5_isDigit_0 : decode cX5_isDigit 0 = .ok (.iload_n 0, 1) := by decide +kernel
theorem dX5_isDigit_1 : decode cX5_isDigit 1 = .ok (.bipush 48, 2) := by decide +kernel
theorem dX5_isDigit_3 : decode cX5_isDigit 3 = .ok (.bipush 57, 2) := by decide +kernel
theorem dX5_isDigit_5 : decode cX5_isDigit 5 = .ok (.invokestatic 60, 3) := by decide +kernel
theorem dX5_isDigit_8 : decode cX5_isDigit 8 = .ok (.ireturn, 1) := by decide +kernel
set_option maxRecDepth 20000 in
theorem ggX5_advance_X5_byteAt : GoodIn wsX5_advance wsX5_byteAt := goodIn_r _ [13, 14, 15, 25, 26, 27, 28, 29, 30, 31, 32, 33, 34, 35, 36, 37, 38, 39, 40, 41, 42, 43, 44, 45, 46, 47, 48, 49, 50, 51, 52, 53, 54] (by decide +kernel) (by decide +kernel)
set_option maxRecDepth 20000 in
theorem gX5_advance_X5_byteAt : GoodIn wsX5_advance (wsV RX5 75 RX5 yX5_byteAt wsX5_byteAt) := goodIn_app (goodIn_of _ (by decide +kernel)) ggX5_advance_X5_byteAt
set_option maxRecDepth 20000 in
theorem ggX5_advance_X5_isLetter : GoodIn wsX5_advance wsX5_isLetter := goodIn_r _ [18, 19, 20, 12, 21] (by decide +kernel) (by decide +kernel)
set_option maxRecDepth 20000 in
theorem gX5_advance_X5_isLetter : GoodIn wsX5_advance (va_wsS RX5 79 yX5_isLetter wsX5_isLetter) := goodIn_app (goodIn_of _ (by decide +kernel)) ggX5_advance_X5_isLetter
set_option maxRecDepth 20000 in
theorem ggX5_advance_X5_isDigit : GoodIn wsX5_advance wsX5_isDigit := goodIn_r _ [24, 19, 20, 12, 21] (by decide +kernel) (by decide +kernel)
set_option maxRecDepth 20000 in
theorem gX5_advance_X5_isDigit : GoodIn wsX5_advance (va_wsS RX5 83 yX5_isDigit wsX5_isDigit) := goodIn_app (goodIn_of _ (by decide +kernel)) ggX5_advance_X5_isDigit
theorem dX5_advance_0 : decode cX5_advance 0 = .ok (.aload_n 0, 1) := by decide +kernel
theorem dX5_advance_1 : decode cX5_advance 1 = .ok (.aload_n 0, 1) := by decide +kernel
theorem dX5_advance_2 : decode cX5_advance 2 = .ok (.getfield 70, 3) := by decide +kernel
theorem dX5_advance_5 : decode cX5_advance 5 = .ok (.putfield 73, 3) := by decide +kernel
theorem dX5_advance_8 : decode cX5_advance 8 = .ok (.aload_n 0, 1) := by decide +kernel
theorem dX5_advance_9 : decode cX5_advance 9 = .ok (.aload_n 0, 1) := by decide +kernel
theorem dX5_advance_10 : decode cX5_advance 10 = .ok (.getfield 73, 3) := by decide +kernel
theorem dX5_advance_13 : decode cX5_advance 13 = .ok (.invokevirtual 75, 3) := by decide +kernel
theorem dX5_advance_16 : decode cX5_advance 16 = .ok (.bipush 32, 2) := by decide +kernel
theorem dX5_advance_18 : decode cX5_advance 18 = .ok (.if_icmp .ne 16, 3) := by decide +kernel
theorem dX5_advance_21 : decode cX5_advance 21 = .ok (.aload_n 0, 1) := by decide +kernel
theorem dX5_advance_22 : decode cX5_advance 22 = .ok (.dup, 1) := by decide +kernel
theorem dX5_advance_23 : decode cX5_advance 23 = .ok (.getfield 73, 3) := by decide +kernel
theorem dX5_advance_26 : decode cX5_advance 26 = .ok (.iconst 1, 1) := by decide +kernel
theorem dX5_advance_27 : decode cX5_advance 27 = .ok (.iadd, 1) := by decide +kernel
theorem dX5_advance_28 : decode cX5_advance 28 = .ok (.putfield 73, 3) := by decide +kernel
theorem dX5_advance_31 : decode cX5_advance 31 = .ok (.goto (-23), 3) := by decide +kernel
theorem dX5_advance_34 : decode cX5_advance 34 = .ok (.aload_n 0, 1) := by decide +kernel
theorem dX5_advance_35 : decode cX5_advance 35 = .ok (.aload_n 0, 1) := by decide +kernel
theorem dX5_advance_36 : decode cX5_advance 36 = .ok (.getfield 73, 3) := by decide +kernel
theorem dX5_advance_39 : decode cX5_advance 39 = .ok (.putfield 70, 3) := by decide +kernel
theorem dX5_advance_42 : decode cX5_advance 42 = .ok (.aload_n 0, 1) := by decide +kernel
theorem dX5_advance_43 : decode cX5_advance 43 = .ok (.aload_n 0, 1) := by decide +kernel
theorem dX5_advance_44 : decode cX5_advance 44 = .ok (.getfield 73, 3) := by decide +kernel
theorem dX5_advance_47 : decode cX5_advance 47 = .ok (.invokevirtual 75, 3) := by decide +kernel
theorem dX5_advance_50 : decode cX5_advance 50 = .ok (.istore_n 1, 1) := by decide +kernel
theorem dX5_advance_51 : decode cX5_advance 51 = .ok (.aload_n 0, 1) := by decide +kernel
theorem dX5_advance_52 : decode cX5_advance 52 = .ok (.iload_n 1, 1) := by decide +kernel
theorem dX5_advance_53 : decode cX5_advance 53 = .ok (.ifCond .ge 7, 3) := by decide +kernel
theorem dX5_advance_56 : decode cX5_advance 56 = .ok (.iconst 0, 1) := by decide +kernel
theorem dX5_advance_57 : decode cX5_advance 57 = .ok (.goto 26, 3) := by decide +kernel
theorem dX5_advance_60 : decode cX5_advance 60 = .ok (.iload_n 1, 1) := by decide +kernel
theorem dX5_advance_61 : decode cX5_advance 61 = .ok (.invokestatic 79, 3) := by decide +kernel
theorem dX5_advance_64 : decode cX5_advance 64 = .ok (.ifCond .eq 7, 3) := by decide +kernel
theorem dX5_advance_67 : decode cX5_advance 67 = .ok (.iconst 1, 1) := by decide +kernel
theorem dX5_advance_68 : decode cX5_advance 68 = .ok (.goto 15, 3) := by decide +kernel
theorem dX5_advance_71 : decode cX5_advance 71 = .ok (.iload_n 1, 1) := by decide +kernel
theorem dX5_advance_72 : decode cX5_advance 72 = .ok (.invokestatic 83, 3) := by decide +kernel
theorem dX5_advance_75 : decode cX5_advance 75 = .ok (.ifCond .eq 7, 3) := by decide +kernel
theorem dX5_advance_78 : decode cX5_advance 78 = .ok (.iconst 2, 1) := by decide +kernel
theorem dX5_advance_79 : decode cX5_advance 79 = .ok (.goto 4, 3) := by decide +kernel
theorem dX5_advance_82 : decode cX5_advance 82 = .ok (.iconst 3, 1) := by decide +kernel
theorem dX5_advance_83 : decode cX5_advance 83 = .ok (.putfield 86, 3) := by decide +kernel
theorem dX5_advance_86 : decode cX5_advance 86 = .ok (.aload_n 0, 1) := by decide +kernel
theorem dX5_advance_87 : decode cX5_advance 87 = .ok (.lconst 0, 1) := by decide +kernel
theorem dX5_advance_88 : decode cX5_advance 88 = .ok (.putfield 89, 3) := by decide +kernel
theorem dX5_advance_91 : decode cX5_advance 91 = .ok (.aload_n 0, 1) := by decide +kernel
theorem dX5_advance_92 : decode cX5_advance 92 = .ok (.aload_n 0, 1) := by decide +kernel
theorem dX5_advance_93 : decode cX5_advance 93 = .ok (.getfield 86, 3) := by decide +kernel
theorem dX5_advance_96 : decode cX5_advance 96 = .ok (.iconst 2, 1) := by decide +kernel
theorem dX5_advance_97 : decode cX5_advance 97 = .ok (.if_icmp .ne 7, 3) := by decide +kernel
theorem dX5_advance_100 : decode cX5_advance 100 = .ok (.iconst 0, 1) := by decide +kernel
theorem dX5_advance_101 : decode cX5_advance 101 = .ok (.goto 4, 3) := by decide +kernel
theorem dX5_advance_104 : decode cX5_advance 104 = .ok (.iload_n 1, 1) := by decide +kernel
theorem dX5_advance_105 : decode cX5_advance 105 = .ok (.putfield 93, 3) := by decide +kernel
theorem dX5_advance_108 : decode cX5_advance 108 = .ok (.aload_n 0, 1) := by decide +kernel
theorem dX5_advance_109 : decode cX5_advance 109 = .ok (.getfield 86, 3) := by decide +kernel
theorem dX5_advance_112 : decode cX5_advance 112 = .ok (.iconst 3, 1) := by decide +kernel
theorem dX5_advance_113 : decode cX5_advance 113 = .ok (.if_icmp .ne 13, 3) := by decide +kernel
theorem dX5_advance_116 : decode cX5_advance 116 = .ok (.aload_n 0, 1) := by decide +kernel
theorem dX5_advance_117 : decode cX5_advance 117 = .ok (.dup, 1) := by decide +kernel
theorem dX5_advance_118 : decode cX5_advance 118 = .ok (.getfield 70, 3) := by decide +kernel
theorem dX5_advance_121 : decode cX5_advance 121 = .ok (.iconst 1, 1) := by decide +kernel
theorem dX5_advance_122 : decode cX5_advance 122 = .ok (.iadd, 1) := by decide +kernel
theorem dX5_advance_123 : decode cX5_advance 123 = .ok (.putfield 70, 3) := by decide +kernel
theorem dX5_advance_126 : decode cX5_advance 126 = .ok (.aload_n 0, 1) := by decide +kernel
theorem dX5_advance_127 : decode cX5_advance 127 = .ok (.getfield 86, 3) := by decide +kernel
theorem dX5_advance_130 : decode cX5_advance 130 = .ok (.iconst 1, 1) := by decide +kernel
theorem dX5_advance_131 : decode cX5_advance 131 = .ok (.if_icmp .ne 76, 3) := by decide +kernel
theorem dX5_advance_134 : decode cX5_advance 134 = .ok (.aload_n 0, 1) := by decide +kernel
theorem dX5_advance_135 : decode cX5_advance 135 = .ok (.aload_n 0, 1) := by decide +kernel
theorem dX5_advance_136 : decode cX5_advance 136 = .ok (.getfield 70, 3) := by decide +kernel
theorem dX5_advance_139 : decode cX5_advance 139 = .ok (.invokevirtual 75, 3) := by decide +kernel
theorem dX5_advance_142 : decode cX5_advance 142 = .ok (.invokestatic 79, 3) := by decide +kernel
theorem dX5_advance_145 : decode cX5_advance 145 = .ok (.ifCond .eq 62, 3) := by decide +kernel
theorem dX5_advance_148 : decode cX5_advance 148 = .ok (.aload_n 0, 1) := by decide +kernel
theorem dX5_advance_149 : decode cX5_advance 149 = .ok (.aload_n 0, 1) := by decide +kernel
theorem dX5_advance_150 : decode cX5_advance 150 = .ok (.getfield 70, 3) := by decide +kernel
theorem dX5_advance_153 : decode cX5_advance 153 = .ok (.aload_n 0, 1) := by decide +kernel
theorem dX5_advance_154 : decode cX5_advance 154 = .ok (.getfield 73, 3) := by decide +kernel
theorem dX5_advance_157 : decode cX5_advance 157 = .ok (.isub, 1) := by decide +kernel
theorem dX5_advance_158 : decode cX5_advance 158 = .ok (.bipush 9, 2) := by decide +kernel
theorem dX5_advance_160 : decode cX5_advance 160 = .ok (.if_icmp .ge 28, 3) := by decide +kernel
theorem dX5_advance_163 : decode cX5_advance 163 = .ok (.ldc2_w 96, 3) := by decide +kernel
theorem dX5_advance_166 : decode cX5_advance 166 = .ok (.aload_n 0, 1) := by decide +kernel
theorem dX5_advance_167 : decode cX5_advance 167 = .ok (.getfield 89, 3) := by decide +kernel
theorem dX5_advance_170 : decode cX5_advance 170 = .ok (.lmul, 1) := by decide +kernel
theorem dX5_advance_171 : decode cX5_advance 171 = .ok (.aload_n 0, 1) := by decide +kernel
theorem dX5_advance_172 : decode cX5_advance 172 = .ok (.aload_n 0, 1) := by decide +kernel
theorem dX5_advance_173 : decode cX5_advance 173 = .ok (.getfield 70, 3) := by decide +kernel
theorem dX5_advance_176 : decode cX5_advance 176 = .ok (.invokevirtual 75, 3) := by decide +kernel
theorem dX5_advance_179 : decode cX5_advance 179 = .ok (.i2l, 1) := by decide +kernel
theorem dX5_advance_180 : decode cX5_advance 180 = .ok (.ladd, 1) := by decide +kernel
theorem dX5_advance_181 : decode cX5_advance 181 = .ok (.ldc2_w 98, 3) := by decide +kernel
theorem dX5_advance_184 : decode cX5_advance 184 = .ok (.lsub, 1) := by decide +kernel
theorem dX5_advance_185 : decode cX5_advance 185 = .ok (.goto 6, 3) := by decide +kernel
theorem dX5_advance_188 : decode cX5_advance 188 = .ok (.ldc2_w 100, 3) := by decide +kernel
theorem dX5_advance_191 : decode cX5_advance 191 = .ok (.putfield 89, 3) := by decide +kernel
theorem dX5_advance_194 : decode cX5_advance 194 = .ok (.aload_n 0, 1) := by decide +kernel
theorem dX5_advance_195 : decode cX5_advance 195 = .ok (.dup, 1) := by decide +kernel
theorem dX5_advance_196 : decode cX5_advance 196 = .ok (.getfield 70, 3) := by decide +kernel
theorem dX5_advance_199 : decode cX5_advance 199 = .ok (.iconst 1, 1) := by decide +kernel
theorem dX5_advance_200 : decode cX5_advance 200 = .ok (.iadd, 1) := by decide +kernel
theorem dX5_advance_201 : decode cX5_advance 201 = .ok (.putfield 70, 3) := by decide +kernel
theorem dX5_advance_204 : decode cX5_advance 204 = .ok (.goto (-78), 3) := by decide +kernel
theorem dX5_advance_207 : decode cX5_advance 207 = .ok (.aload_n 0, 1) := by decide +kernel
theorem dX5_advance_208 : decode cX5_advance 208 = .ok (.getfield 86, 3) := by decide +kernel
theorem dX5_advance_211 : decode cX5_advance 211 = .ok (.iconst 2, 1) := by decide +kernel
theorem dX5_advance_212 : decode cX5_advance 212 = .ok (.if_icmp .ne 70, 3) := by decide +kernel
theorem dX5_advance_215 : decode cX5_advance 215 = .ok (.aload_n 0, 1) := by decide +kernel
theorem dX5_advance_216 : decode cX5_advance 216 = .ok (.aload_n 0, 1) := by decide +kernel
theorem dX5_advance_217 : decode cX5_advance 217 = .ok (.getfield 70, 3) := by decide +kernel
theorem dX5_advance_220 : decode cX5_advance 220 = .ok (.invokevirtual 75, 3) := by decide +kernel
theorem dX5_advance_223 : decode cX5_advance 223 = .ok (.invokestatic 83, 3) := by decide +kernel
theorem dX5_advance_226 : decode cX5_advance 226 = .ok (.ifCond .eq 56, 3) := by decide +kernel
theorem dX5_advance_229 : decode cX5_advance 229 = .ok (.aload_n 0, 1) := by decide +kernel
theorem dX5_advance_230 : decode cX5_advance 230 = .ok (.aload_n 0, 1) := by decide +kernel
theorem dX5_advance_231 : decode cX5_advance 231 = .ok (.getfield 70, 3) := by decide +kernel
theorem dX5_advance_234 : decode cX5_advance 234 = .ok (.aload_n 0, 1) := by decide +kernel
theorem dX5_advance_235 : decode cX5_advance 235 = .ok (.getfield 73, 3) := by decide +kernel
theorem dX5_advance_238 : decode cX5_advance 238 = .ok (.isub, 1) := by decide +kernel
theorem dX5_advance_239 : decode cX5_advance 239 = .ok (.iconst 3, 1) := by decide +kernel
theorem dX5_advance_240 : decode cX5_advance 240 = .ok (.if_icmp .ge 25, 3) := by decide +kernel
theorem dX5_advance_243 : decode cX5_advance 243 = .ok (.bipush 10, 2) := by decide +kernel
theorem dX5_advance_245 : decode cX5_advance 245 = .ok (.aload_n 0, 1) := by decide +kernel
theorem dX5_advance_246 : decode cX5_advance 246 = .ok (.getfield 93, 3) := by decide +kernel
theorem dX5_advance_249 : decode cX5_advance 249 = .ok (.imul, 1) := by decide +kernel
theorem dX5_advance_250 : decode cX5_advance 250 = .ok (.aload_n 0, 1) := by decide +kernel
theorem dX5_advance_251 : decode cX5_advance 251 = .ok (.aload_n 0, 1) := by decide +kernel
theorem dX5_advance_252 : decode cX5_advance 252 = .ok (.getfield 70, 3) := by decide +kernel
theorem dX5_advance_255 : decode cX5_advance 255 = .ok (.invokevirtual 75, 3) := by decide +kernel
theorem dX5_advance_258 : decode cX5_advance 258 = .ok (.iadd, 1) := by decide +kernel
theorem dX5_advance_259 : decode cX5_advance 259 = .ok (.bipush 48, 2) := by decide +kernel
theorem dX5_advance_261 : decode cX5_advance 261 = .ok (.isub, 1) := by decide +kernel
theorem dX5_advance_262 : decode cX5_advance 262 = .ok (.goto 4, 3) := by decide +kernel
theorem dX5_advance_265 : decode cX5_advance 265 = .ok (.iconst (-1), 1) := by decide +kernel
theorem dX5_advance_266 : decode cX5_advance 266 = .ok (.putfield 93, 3) := by decide +kernel
theorem dX5_advance_269 : decode cX5_advance 269 = .ok (.aload_n 0, 1) := by decide +kernel
theorem dX5_advance_270 : decode cX5_advance 270 = .ok (.dup, 1) := by decide +kernel
theorem dX5_advance_271 : decode cX5_advance 271 = .ok (.getfield 70, 3) := by decide +kernel
theorem dX5_advance_274 : decode cX5_advance 274 = .ok (.iconst 1, 1) := by decide +kernel
theorem dX5_advance_275 : decode cX5_advance 275 = .ok (.iadd, 1) := by decide +kernel
theorem dX5_advance_276 : decode cX5_advance 276 = .ok (.putfield 70, 3) := by decide +kernel
theorem dX5_advance_279 : decode cX5_advance 279 = .ok (.goto (-72), 3) := by decide +kernel
theorem dX5_advance_282 : decode cX5_advance 282 = .ok (.return_, 1) := by decide +kernel
theorem dX5_isWord_0 : decode cX5_isWord 0 = .ok (.aload_n 0, 1) := by decide +kernel
theorem dX5_isWord_1 : decode cX5_isWord 1 = .ok (.getfield 86, 3) := by decide +kernel
theorem dX5_isWord_4 : decode cX5_isWord 4 = .ok (.iconst 1, 1) := by decide +kernel
theorem dX5_isWord_5 : decode cX5_isWord 5 = .ok (.if_icmp .ne 16, 3) := by decide +kernel
theorem dX5_isWord_8 : decode cX5_isWord 8 = .ok (.aload_n 0, 1) := by decide +kernel
theorem dX5_isWord_9 : decode cX5_isWord 9 = .ok (.getfield 89, 3) := by decide +kernel
theorem dX5_isWord_12 : decode cX5_isWord 12 = .ok (.lload_n 1, 1) := by decide +kernel
theorem dX5_isWord_13 : decode cX5_isWord 13 = .ok (.lcmp, 1) := by decide +kernel
theorem dX5_isWord_14 : decode cX5_isWord 14 = .ok (.ifCond .ne 7, 3) := by decide +kernel
theorem dX5_isWord_17 : decode cX5_isWord 17 = .ok (.iconst 1, 1) := by decide +kernel
theorem dX5_isWord_18 : decode cX5_isWord 18 = .ok (.goto 4, 3) := by decide +kernel
theorem dX5_isWord_21 : decode cX5_isWord 21 = .ok (.iconst 0, 1) := by decide +kernel
theorem dX5_isWord_22 : decode cX5_isWord 22 = .ok (.ireturn, 1) := by decide +kernel
theorem dX5_isMark_0 : decode cX5_isMark 0 = .ok (.aload_n 0, 1) := by decide +kernel
theorem dX5_isMark_1 : decode cX5_isMark 1 = .ok (.getfield 86, 3) := by decide +kernel
theorem dX5_isMark_4 : decode cX5_isMark 4 = .ok (.iconst 3, 1) := by decide +kernel
theorem dX5_isMark_5 : decode cX5_isMark 5 = .ok (.if_icmp .ne 15, 3) := by decide +kernel
theorem dX5_isMark_8 : decode cX5_isMark 8 = .ok (.aload_n 0, 1) := by decide +kernel
theorem dX5_isMark_9 : decode cX5_isMark 9 = .ok (.getfield 93, 3) := by decide +kernel
theorem dX5_isMark_12 : decode cX5_isMark 12 = .ok (.iload_n 1, 1) := by decide +kernel
theorem dX5_isMark_13 : decode cX5_isMark 13 = .ok (.if_icmp .ne 7, 3) := by decide +kernel
theorem dX5_isMark_16 : decode cX5_isMark 16 = .ok (.iconst 1, 1) := by decide +kernel
theorem dX5_isMark_17 : decode cX5_isMark 17 = .ok (.goto 4, 3) := by decide +kernel
theorem dX5_isMark_20 : decode cX5_isMark 20 = .ok (.iconst 0, 1) := by decide +kernel
theorem dX5_isMark_21 : decode cX5_isMark 21 = .ok (.ireturn, 1) := by decide +kernel
set_option maxRecDepth 20000 in
theorem ggX5_kindHere_X5_isWord : GoodIn wsX5_kindHere wsX5_isWord := goodIn_r _ [11, 12, 13, 14, 15, 16, 17, 18, 19, 20, 21, 22, 23, 24, 25, 26, 27, 28, 29, 30, 31, 32, 33, 34, 35, 36, 37, 38, 39, 40, 41, 42, 43] (by decide +kernel) (by decide +kernel)
set_option maxRecDepth 20000 in
theorem gX5_kindHere_X5_isWord : GoodIn wsX5_kindHere (wsV RX5 104 RX5 yX5_isWord wsX5_isWord) := goodIn_app (goodIn_of _ (by decide +kernel)) ggX5_kindHere_X5_isWord
theorem dX5_kindHere_0 : decode cX5_kindHere 0 = .ok (.aload_n 0, 1) := by decide +kernel
theorem dX5_kindHere_1 : decode cX5_kindHere 1 = .ok (.ldc2_w 102, 3) := by decide +kernel
theorem dX5_kindHere_4 : decode cX5_kindHere 4 = .ok (.invokevirtual 104, 3) := by decide +kernel
theorem dX5_kindHere_7 : decode cX5_kindHere 7 = .ok (.ifCond .eq 7, 3) := by decide +kernel
theorem dX5_kindHere_10 : decode cX5_kindHere 10 = .ok (.iconst 0, 1) := by decide +kernel
theorem dX5_kindHere_11 : decode cX5_kindHere 11 = .ok (.goto 74, 3) := by decide +kernel
theorem dX5_kindHere_14 : decode cX5_kindHere 14 = .ok (.aload_n 0, 1) := by decide +kernel
theorem dX5_kindHere_15 : decode cX5_kindHere 15 = .ok (.ldc2_w 108, 3) := by decide +kernel
theorem dX5_kindHere_18 : decode cX5_kindHere 18 = .ok (.invokevirtual 104, 3) := by decide +kernel
theorem dX5_kindHere_21 : decode cX5_kindHere 21 = .ok (.ifCond .eq 7, 3) := by decide +kernel
theorem dX5_kindHere_24 : decode cX5_kindHere 24 = .ok (.iconst 1, 1) := by decide +kernel
theorem dX5_kindHere_25 : decode cX5_kindHere 25 = .ok (.goto 60, 3) := by decide +kernel
theorem dX5_kindHere_28 : decode cX5_kindHere 28 = .ok (.aload_n 0, 1) := by decide +kernel
theorem dX5_kindHere_29 : decode cX5_kindHere 29 = .ok (.ldc2_w 110, 3) := by decide +kernel
theorem dX5_kindHere_32 : decode cX5_kindHere 32 = .ok (.invokevirtual 104, 3) := by decide +kernel
theorem dX5_kindHere_35 : decode cX5_kindHere 35 = .ok (.ifCond .eq 7, 3) := by decide +kernel
theorem dX5_kindHere_38 : decode cX5_kindHere 38 = .ok (.iconst 2, 1) := by decide +kernel
theorem dX5_kindHere_39 : decode cX5_kindHere 39 = .ok (.goto 46, 3) := by decide +kernel
theorem dX5_kindHere_42 : decode cX5_kindHere 42 = .ok (.aload_n 0, 1) := by decide +kernel
theorem dX5_kindHere_43 : decode cX5_kindHere 43 = .ok (.ldc2_w 112, 3) := by decide +kernel
theorem dX5_kindHere_46 : decode cX5_kindHere 46 = .ok (.invokevirtual 104, 3) := by decide +kernel
theorem dX5_kindHere_49 : decode cX5_kindHere 49 = .ok (.ifCond .eq 7, 3) := by decide +kernel
theorem dX5_kindHere_52 : decode cX5_kindHere 52 = .ok (.iconst 3, 1) := by decide +kernel
theorem dX5_kindHere_53 : decode cX5_kindHere 53 = .ok (.goto 32, 3) := by decide +kernel
theorem dX5_kindHere_56 : decode cX5_kindHere 56 = .ok (.aload_n 0, 1) := by decide +kernel
theorem dX5_kindHere_57 : decode cX5_kindHere 57 = .ok (.ldc2_w 114, 3) := by decide +kernel
theorem dX5_kindHere_60 : decode cX5_kindHere 60 = .ok (.invokevirtual 104, 3) := by decide +kernel
theorem dX5_kindHere_63 : decode cX5_kindHere 63 = .ok (.ifCond .eq 7, 3) := by decide +kernel
theorem dX5_kindHere_66 : decode cX5_kindHere 66 = .ok (.iconst 4, 1) := by decide +kernel
theorem dX5_kindHere_67 : decode cX5_kindHere 67 = .ok (.goto 18, 3) := by decide +kernel
theorem dX5_kindHere_70 : decode cX5_kindHere 70 = .ok (.aload_n 0, 1) := by decide +kernel
theorem dX5_kindHere_71 : decode cX5_kindHere 71 = .ok (.ldc2_w 116, 3) := by decide +kernel
theorem dX5_kindHere_74 : decode cX5_kindHere 74 = .ok (.invokevirtual 104, 3) := by decide +kernel
theorem dX5_kindHere_77 : decode cX5_kindHere 77 = .ok (.ifCond .eq 7, 3) := by decide +kernel
theorem dX5_kindHere_80 : decode cX5_kindHere 80 = .ok (.iconst 5, 1) := by decide +kernel
theorem dX5_kindHere_81 : decode cX5_kindHere 81 = .ok (.goto 4, 3) := by decide +kernel
theorem dX5_kindHere_84 : decode cX5_kindHere 84 = .ok (.iconst (-1), 1) := by decide +kernel
theorem dX5_kindHere_85 : decode cX5_kindHere 85 = .ok (.ireturn, 1) := by decide +kernel
set_option maxRecDepth 20000 in
theorem ggX5_lawHere_X5_isWord : GoodIn wsX5_lawHere wsX5_isWord := goodIn_r _ [9, 10, 11, 12, 13, 14, 15, 16, 17, 18, 19, 20, 21, 22, 23, 24, 25, 26, 27, 28, 29, 30, 31, 32, 33, 34, 35, 36, 37, 38, 39, 40, 41] (by decide +kernel) (by decide +kernel)
set_option maxRecDepth 20000 in
theorem gX5_lawHere_X5_isWord : GoodIn wsX5_lawHere (wsV RX5 104 RX5 yX5_isWord wsX5_isWord) := goodIn_app (goodIn_of _ (by decide +kernel)) ggX5_lawHere_X5_isWord
theorem dX5_lawHere_0 : decode cX5_lawHere 0 = .ok (.aload_n 0, 1) := by decide +kernel
theorem dX5_lawHere_1 : decode cX5_lawHere 1 = .ok (.ldc2_w 118, 3) := by decide +kernel
theorem dX5_lawHere_4 : decode cX5_lawHere 4 = .ok (.invokevirtual 104, 3) := by decide +kernel
theorem dX5_lawHere_7 : decode cX5_lawHere 7 = .ok (.ifCond .eq 7, 3) := by decide +kernel
theorem dX5_lawHere_10 : decode cX5_lawHere 10 = .ok (.iconst 0, 1) := by decide +kernel
theorem dX5_lawHere_11 : decode cX5_lawHere 11 = .ok (.goto 46, 3) := by decide +kernel
theorem dX5_lawHere_14 : decode cX5_lawHere 14 = .ok (.aload_n 0, 1) := by decide +kernel
theorem dX5_lawHere_15 : decode cX5_lawHere 15 = .ok (.ldc2_w 120, 3) := by decide +kernel
theorem dX5_lawHere_18 : decode cX5_lawHere 18 = .ok (.invokevirtual 104, 3) := by decide +kernel
theorem dX5_lawHere_21 : decode cX5_lawHere 21 = .ok (.ifCond .eq 7, 3) := by decide +kernel
theorem dX5_lawHere_24 : decode cX5_lawHere 24 = .ok (.iconst 1, 1) := by decide +kernel
theorem dX5_lawHere_25 : decode cX5_lawHere 25 = .ok (.goto 32, 3) := by decide +kernel
theorem dX5_lawHere_28 : decode cX5_lawHere 28 = .ok (.aload_n 0, 1) := by decide +kernel
theorem dX5_lawHere_29 : decode cX5_lawHere 29 = .ok (.ldc2_w 122, 3) := by decide +kernel
theorem dX5_lawHere_32 : decode cX5_lawHere 32 = .ok (.invokevirtual 104, 3) := by decide +kernel
theorem dX5_lawHere_35 : decode cX5_lawHere 35 = .ok (.ifCond .eq 7, 3) := by decide +kernel
theorem dX5_lawHere_38 : decode cX5_lawHere 38 = .ok (.iconst 2, 1) := by decide +kernel
theorem dX5_lawHere_39 : decode cX5_lawHere 39 = .ok (.goto 18, 3) := by decide +kernel
theorem dX5_lawHere_42 : decode cX5_lawHere 42 = .ok (.aload_n 0, 1) := by decide +kernel
theorem dX5_lawHere_43 : decode cX5_lawHere 43 = .ok (.ldc2_w 124, 3) := by decide +kernel
theorem dX5_lawHere_46 : decode cX5_lawHere 46 = .ok (.invokevirtual 104, 3) := by decide +kernel
theorem dX5_lawHere_49 : decode cX5_lawHere 49 = .ok (.ifCond .eq 7, 3) := by decide +kernel
theorem dX5_lawHere_52 : decode cX5_lawHere 52 = .ok (.iconst 3, 1) := by decide +kernel
theorem dX5_lawHere_53 : decode cX5_lawHere 53 = .ok (.goto 4, 3) := by decide +kernel
theorem dX5_lawHere_56 : decode cX5_lawHere 56 = .ok (.iconst (-1), 1) := by decide +kernel
theorem dX5_lawHere_57 : decode cX5_lawHere 57 = .ok (.ireturn, 1) := by decide +kernel
set_option maxRecDepth 20000 in
theorem ggX5_groundHere_X5_isWord : GoodIn wsX5_groundHere wsX5_isWord := goodIn_r _ [8, 9, 10, 11, 12, 13, 14, 15, 16, 17, 18, 19, 20, 21, 22, 23, 24, 25, 26, 27, 28, 29, 30, 31, 32, 33, 34, 35, 36, 37, 38, 39, 40] (by decide +kernel) (by decide +kernel)
set_option maxRecDepth 20000 in
theorem gX5_groundHere_X5_isWord : GoodIn wsX5_groundHere (wsV RX5 104 RX5 yX5_isWord wsX5_isWord) := goodIn_app (goodIn_of _ (by decide +kernel)) ggX5_groundHere_X5_isWord
theorem dX5_groundHere_0 : decode cX5_groundHere 0 = .ok (.aload_n 0, 1) := by decide +kernel
theorem dX5_groundHere_1 : decode cX5_groundHere 1 = .ok (.ldc2_w 126, 3) := by decide +kernel
theorem dX5_groundHere_4 : decode cX5_groundHere 4 = .ok (.invokevirtual 104, 3) := by decide +kernel
theorem dX5_groundHere_7 : decode cX5_groundHere 7 = .ok (.ifCond .eq 7, 3) := by decide +kernel
theorem dX5_groundHere_10 : decode cX5_groundHere 10 = .ok (.iconst 0, 1) := by decide +kernel
theorem dX5_groundHere_11 : decode cX5_groundHere 11 = .ok (.goto 32, 3) := by decide +kernel
theorem dX5_groundHere_14 : decode cX5_groundHere 14 = .ok (.aload_n 0, 1) := by decide +kernel
theorem dX5_groundHere_15 : decode cX5_groundHere 15 = .ok (.ldc2_w 128, 3) := by decide +kernel
theorem dX5_groundHere_18 : decode cX5_groundHere 18 = .ok (.invokevirtual 104, 3) := by decide +kernel
theorem dX5_groundHere_21 : decode cX5_groundHere 21 = .ok (.ifCond .eq 7, 3) := by decide +kernel
theorem dX5_groundHere_24 : decode cX5_groundHere 24 = .ok (.iconst 1, 1) := by decide +kernel
theorem dX5_groundHere_25 : decode cX5_groundHere 25 = .ok (.goto 18, 3) := by decide +kernel
theorem dX5_groundHere_28 : decode cX5_groundHere 28 = .ok (.aload_n 0, 1) := by decide +kernel
theorem dX5_groundHere_29 : decode cX5_groundHere 29 = .ok (.ldc2_w 130, 3) := by decide +kernel
theorem dX5_groundHere_32 : decode cX5_groundHere 32 = .ok (.invokevirtual 104, 3) := by decide +kernel
theorem dX5_groundHere_35 : decode cX5_groundHere 35 = .ok (.ifCond .eq 7, 3) := by decide +kernel
theorem dX5_groundHere_38 : decode cX5_groundHere 38 = .ok (.iconst 2, 1) := by decide +kernel
theorem dX5_groundHere_39 : decode cX5_groundHere 39 = .ok (.goto 4, 3) := by decide +kernel
theorem dX5_groundHere_42 : decode cX5_groundHere 42 = .ok (.iconst (-1), 1) := by decide +kernel
theorem dX5_groundHere_43 : decode cX5_groundHere 43 = .ok (.ireturn, 1) := by decide +kernel
set_option maxRecDepth 20000 in
theorem ggX5_wantNumber_X5_in : GoodIn wsX5_wantNumber wsX5_in := goodIn_r _ [7] (by decide +kernel) (by decide +kernel)
set_option maxRecDepth 20000 in
theorem gX5_wantNumber_X5_in : GoodIn wsX5_wantNumber (va_wsS RX5 60 yX5_in wsX5_in) := goodIn_app (goodIn_of _ (by decide +kernel)) ggX5_wantNumber_X5_in
set_option maxRecDepth 20000 in
theorem ggX5_wantNumber_X5_advance : GoodIn wsX5_wantNumber wsX5_advance := goodIn_r _ [11, 12, 13, 3, 14, 1, 15, 16, 17, 18, 19, 20, 6, 21, 22, 23, 24, 25, 26, 4, 5, 7, 27, 28, 29, 30, 31, 32, 33, 34, 35, 36, 37, 38, 39, 40, 41, 42, 43, 44, 45, 46, 47, 48, 49, 50, 51, 52, 53, 54, 55, 56, 57, 58, 59] (by decide +kernel) (by decide +kernel)
set_option maxRecDepth 20000 in
theorem gX5_wantNumber_X5_advance : GoodIn wsX5_wantNumber (wsV RX5 136 RX5 yX5_advance wsX5_advance) := goodIn_app (goodIn_of _ (by decide +kernel)) ggX5_wantNumber_X5_advance
theorem dX5_wantNumber_0 : decode cX5_wantNumber 0 = .ok (.aload_n 0, 1) := by decide +kernel
theorem dX5_wantNumber_1 : decode cX5_wantNumber 1 = .ok (.getfield 93, 3) := by decide +kernel
theorem dX5_wantNumber_4 : decode cX5_wantNumber 4 = .ok (.istore_n 3, 1) := by decide +kernel
theorem dX5_wantNumber_5 : decode cX5_wantNumber 5 = .ok (.aload_n 0, 1) := by decide +kernel
theorem dX5_wantNumber_6 : decode cX5_wantNumber 6 = .ok (.aload_n 0, 1) := by decide +kernel
theorem dX5_wantNumber_7 : decode cX5_wantNumber 7 = .ok (.getfield 132, 3) := by decide +kernel
theorem dX5_wantNumber_10 : decode cX5_wantNumber 10 = .ok (.ifCond .eq 24, 3) := by decide +kernel
theorem dX5_wantNumber_13 : decode cX5_wantNumber 13 = .ok (.aload_n 0, 1) := by decide +kernel
theorem dX5_wantNumber_14 : decode cX5_wantNumber 14 = .ok (.getfield 86, 3) := by decide +kernel
theorem dX5_wantNumber_17 : decode cX5_wantNumber 17 = .ok (.iconst 2, 1) := by decide +kernel
theorem dX5_wantNumber_18 : decode cX5_wantNumber 18 = .ok (.if_icmp .ne 16, 3) := by decide +kernel
theorem dX5_wantNumber_21 : decode cX5_wantNumber 21 = .ok (.iload_n 3, 1) := by decide +kernel
theorem dX5_wantNumber_22 : decode cX5_wantNumber 22 = .ok (.iload_n 1, 1) := by decide +kernel
theorem dX5_wantNumber_23 : decode cX5_wantNumber 23 = .ok (.iload_n 2, 1) := by decide +kernel
theorem dX5_wantNumber_24 : decode cX5_wantNumber 24 = .ok (.invokestatic 60, 3) := by decide +kernel
theorem dX5_wantNumber_27 : decode cX5_wantNumber 27 = .ok (.ifCond .eq 7, 3) := by decide +kernel
theorem dX5_wantNumber_30 : decode cX5_wantNumber 30 = .ok (.iconst 1, 1) := by decide +kernel
theorem dX5_wantNumber_31 : decode cX5_wantNumber 31 = .ok (.goto 4, 3) := by decide +kernel
theorem dX5_wantNumber_34 : decode cX5_wantNumber 34 = .ok (.iconst 0, 1) := by decide +kernel
theorem dX5_wantNumber_35 : decode cX5_wantNumber 35 = .ok (.putfield 132, 3) := by decide +kernel
theorem dX5_wantNumber_38 : decode cX5_wantNumber 38 = .ok (.aload_n 0, 1) := by decide +kernel
theorem dX5_wantNumber_39 : decode cX5_wantNumber 39 = .ok (.getfield 132, 3) := by decide +kernel
theorem dX5_wantNumber_42 : decode cX5_wantNumber 42 = .ok (.ifCond .eq 7, 3) := by decide +kernel
theorem dX5_wantNumber_45 : decode cX5_wantNumber 45 = .ok (.aload_n 0, 1) := by decide +kernel
theorem dX5_wantNumber_46 : decode cX5_wantNumber 46 = .ok (.invokevirtual 136, 3) := by decide +kernel
theorem dX5_wantNumber_49 : decode cX5_wantNumber 49 = .ok (.iload_n 3, 1) := by decide +kernel
theorem dX5_wantNumber_50 : decode cX5_wantNumber 50 = .ok (.ireturn, 1) := by decide +kernel
set_option maxRecDepth 20000 in
theorem ggX5_wantEnd_X5_isMark : GoodIn wsX5_wantEnd wsX5_isMark := goodIn_r _ [6, 7, 8, 34, 35, 36, 37, 38, 39, 40, 41, 42, 43, 44, 45, 46, 47, 48, 49, 50, 51, 52, 53, 54, 55, 56, 57, 58, 59, 60, 61, 62, 63] (by decide +kernel) (by decide +kernel)
set_option maxRecDepth 20000 in
theorem gX5_wantEnd_X5_isMark : GoodIn wsX5_wantEnd (wsV RX5 139 RX5 yX5_isMark wsX5_isMark) := goodIn_app (goodIn_of _ (by decide +kernel)) ggX5_wantEnd_X5_isMark
set_option maxRecDepth 20000 in
theorem ggX5_wantEnd_X5_advance : GoodIn wsX5_wantEnd wsX5_advance := goodIn_r _ [12, 13, 14, 7, 15, 8, 16, 17, 18, 19, 20, 21, 5, 22, 23, 24, 25, 26, 27, 28, 29, 30, 31, 32, 33, 34, 35, 36, 37, 38, 39, 40, 41, 42, 43, 44, 45, 46, 47, 48, 49, 50, 51, 52, 53, 54, 55, 56, 57, 58, 59, 60, 61, 62, 63] (by decide +kernel) (by decide +kernel)
set_option maxRecDepth 20000 in
theorem gX5_wantEnd_X5_advance : GoodIn wsX5_wantEnd (wsV RX5 136 RX5 yX5_advance wsX5_advance) := goodIn_app (goodIn_of _ (by decide +kernel)) ggX5_wantEnd_X5_advance
theorem dX5_wantEnd_0 : decode cX5_wantEnd 0 = .ok (.aload_n 0, 1) := by decide +kernel
theorem dX5_wantEnd_1 : decode cX5_wantEnd 1 = .ok (.aload_n 0, 1) := by decide +kernel
theorem dX5_wantEnd_2 : decode cX5_wantEnd 2 = .ok (.getfield 132, 3) := by decide +kernel
theorem dX5_wantEnd_5 : decode cX5_wantEnd 5 = .ok (.ifCond .eq 16, 3) := by decide +kernel
theorem dX5_wantEnd_8 : decode cX5_wantEnd 8 = .ok (.aload_n 0, 1) := by decide +kernel
theorem dX5_wantEnd_9 : decode cX5_wantEnd 9 = .ok (.bipush 59, 2) := by decide +kernel
theorem dX5_wantEnd_11 : decode cX5_wantEnd 11 = .ok (.invokevirtual 139, 3) := by decide +kernel
theorem dX5_wantEnd_14 : decode cX5_wantEnd 14 = .ok (.ifCond .eq 7, 3) := by decide +kernel
theorem dX5_wantEnd_17 : decode cX5_wantEnd 17 = .ok (.iconst 1, 1) := by decide +kernel
theorem dX5_wantEnd_18 : decode cX5_wantEnd 18 = .ok (.goto 4, 3) := by decide +kernel
theorem dX5_wantEnd_21 : decode cX5_wantEnd 21 = .ok (.iconst 0, 1) := by decide +kernel
theorem dX5_wantEnd_22 : decode cX5_wantEnd 22 = .ok (.putfield 132, 3) := by decide +kernel
theorem dX5_wantEnd_25 : decode cX5_wantEnd 25 = .ok (.aload_n 0, 1) := by decide +kernel
theorem dX5_wantEnd_26 : decode cX5_wantEnd 26 = .ok (.getfield 132, 3) := by decide +kernel
theorem dX5_wantEnd_29 : decode cX5_wantEnd 29 = .ok (.ifCond .eq 7, 3) := by decide +kernel
theorem dX5_wantEnd_32 : decode cX5_wantEnd 32 = .ok (.aload_n 0, 1) := by decide +kernel
theorem dX5_wantEnd_33 : decode cX5_wantEnd 33 = .ok (.invokevirtual 136, 3) := by decide +kernel
theorem dX5_wantEnd_36 : decode cX5_wantEnd 36 = .ok (.return_, 1) := by decide +kernel
set_option maxRecDepth 20000 in
theorem ggX5_mayWant_X5_isWord : GoodIn wsX5_mayWant wsX5_isWord := goodIn_r _ [6, 7, 8, 38, 39, 40, 41, 42, 43, 44, 45, 46, 47, 48, 49, 50, 51, 52, 53, 54, 55, 56, 57, 58, 59, 60, 61, 62, 63, 64, 65, 66, 67] (by decide +kernel) (by decide +kernel)
set_option maxRecDepth 20000 in
theorem gX5_mayWant_X5_isWord : GoodIn wsX5_mayWant (wsV RX5 104 RX5 yX5_isWord wsX5_isWord) := goodIn_app (goodIn_of _ (by decide +kernel)) ggX5_mayWant_X5_isWord
set_option maxRecDepth 20000 in
theorem ggX5_mayWant_X5_advance : GoodIn wsX5_mayWant wsX5_advance := goodIn_r _ [12, 13, 14, 7, 8, 15, 16, 17, 18, 19, 20, 21, 5, 22, 23, 24, 25, 26, 27, 28, 29, 30, 31, 32, 33, 38, 39, 40, 41, 42, 43, 44, 45, 46, 47, 48, 49, 50, 51, 52, 53, 54, 55, 56, 57, 58, 59, 60, 61, 62, 63, 64, 65, 66, 67] (by decide +kernel) (by decide +kernel)
set_option maxRecDepth 20000 in
theorem gX5_mayWant_X5_advance : GoodIn wsX5_mayWant (wsV RX5 136 RX5 yX5_advance wsX5_advance) := goodIn_app (goodIn_of _ (by decide +kernel)) ggX5_mayWant_X5_advance
set_option maxRecDepth 20000 in
theorem ggX5_mayWant_X5_wantNumber : GoodIn wsX5_mayWant wsX5_wantNumber := goodIn_r _ [37, 15, 1, 7, 28, 29, 5, 30, 9, 10, 11, 12, 13, 14, 8, 16, 17, 18, 19, 20, 21, 22, 23, 24, 25, 26, 27, 31, 32, 33, 38, 39, 40, 41, 42, 43, 44, 45, 46, 47, 48, 49, 50, 51, 52, 53, 54, 55, 56, 57, 58, 59, 60, 61, 62, 63, 64, 65, 66, 67] (by decide +kernel) (by decide +kernel)
set_option maxRecDepth 20000 in
theorem gX5_mayWant_X5_wantNumber : GoodIn wsX5_mayWant (wsV RX5 142 RX5 yX5_wantNumber wsX5_wantNumber) := goodIn_app (goodIn_of _ (by decide +kernel)) ggX5_mayWant_X5_wantNumber
theorem dX5_mayWant_0 : decode cX5_mayWant 0 = .ok (.aload_n 0, 1) := by decide +kernel
theorem dX5_mayWant_1 : decode cX5_mayWant 1 = .ok (.getfield 132, 3) := by decide +kernel
theorem dX5_mayWant_4 : decode cX5_mayWant 4 = .ok (.ifCond .eq 11, 3) := by decide +kernel
theorem dX5_mayWant_7 : decode cX5_mayWant 7 = .ok (.aload_n 0, 1) := by decide +kernel
theorem dX5_mayWant_8 : decode cX5_mayWant 8 = .ok (.lload_n 1, 1) := by decide +kernel
theorem dX5_mayWant_9 : decode cX5_mayWant 9 = .ok (.invokevirtual 104, 3) := by decide +kernel
theorem dX5_mayWant_12 : decode cX5_mayWant 12 = .ok (.ifCond .ne 6, 3) := by decide +kernel
theorem dX5_mayWant_15 : decode cX5_mayWant 15 = .ok (.iload 4, 2) := by decide +kernel
theorem dX5_mayWant_17 : decode cX5_mayWant 17 = .ok (.ireturn, 1) := by decide +kernel
theorem dX5_mayWant_18 : decode cX5_mayWant 18 = .ok (.aload_n 0, 1) := by decide +kernel
theorem dX5_mayWant_19 : decode cX5_mayWant 19 = .ok (.invokevirtual 136, 3) := by decide +kernel
theorem dX5_mayWant_22 : decode cX5_mayWant 22 = .ok (.aload_n 0, 1) := by decide +kernel
theorem dX5_mayWant_23 : decode cX5_mayWant 23 = .ok (.iconst 0, 1) := by decide +kernel
theorem dX5_mayWant_24 : decode cX5_mayWant 24 = .ok (.iload_n 3, 1) := by decide +kernel
theorem dX5_mayWant_25 : decode cX5_mayWant 25 = .ok (.invokevirtual 142, 3) := by decide +kernel
theorem dX5_mayWant_28 : decode cX5_mayWant 28 = .ok (.ireturn, 1) := by decide +kernel
set_option maxRecDepth 20000 in
theorem ggX5_wantOne_X5_advance : GoodIn wsX5_wantOne wsX5_advance := goodIn_r _ [10, 11, 12, 13, 14, 15, 16, 17, 18, 19, 20, 21, 9, 22, 23, 24, 25, 26, 27, 28, 29, 30, 31, 32, 33, 54, 55, 56, 57, 58, 59, 60, 61, 62, 63, 64, 65, 66, 67, 68, 69, 70, 71, 72, 73, 74, 75, 76, 77, 78, 79, 80, 81, 82, 83] (by decide +kernel) (by decide +kernel)
set_option maxRecDepth 20000 in
theorem gX5_wantOne_X5_advance : GoodIn wsX5_wantOne (wsV RX5 136 RX5 yX5_advance wsX5_advance) := goodIn_app (goodIn_of _ (by decide +kernel)) ggX5_wantOne_X5_advance
set_option maxRecDepth 20000 in
theorem ggX5_wantOne_X5_isWord : GoodIn wsX5_wantOne wsX5_isWord := goodIn_r _ [37, 13, 14, 54, 55, 56, 57, 58, 59, 60, 61, 62, 63, 64, 65, 66, 67, 68, 69, 70, 71, 72, 73, 74, 75, 76, 77, 78, 79, 80, 81, 82, 83] (by decide +kernel) (by decide +kernel)
set_option maxRecDepth 20000 in
theorem gX5_wantOne_X5_isWord : GoodIn wsX5_wantOne (wsV RX5 104 RX5 yX5_isWord wsX5_isWord) := goodIn_app (goodIn_of _ (by decide +kernel)) ggX5_wantOne_X5_isWord
set_option maxRecDepth 20000 in
theorem ggX5_wantOne_X5_wantNumber : GoodIn wsX5_wantOne wsX5_wantNumber := goodIn_r _ [41, 15, 2, 13, 28, 29, 9, 30, 6, 7, 8, 10, 11, 12, 14, 16, 17, 18, 19, 20, 21, 22, 23, 24, 25, 26, 27, 31, 32, 33, 54, 55, 56, 57, 58, 59, 60, 61, 62, 63, 64, 65, 66, 67, 68, 69, 70, 71, 72, 73, 74, 75, 76, 77, 78, 79, 80, 81, 82, 83] (by decide +kernel) (by decide +kernel)
set_option maxRecDepth 20000 in
theorem gX5_wantOne_X5_wantNumber : GoodIn wsX5_wantOne (wsV RX5 142 RX5 yX5_wantNumber wsX5_wantNumber) := goodIn_app (goodIn_of _ (by decide +kernel)) ggX5_wantOne_X5_wantNumber
set_option maxRecDepth 20000 in
theorem ggX5_wantOne_X5_mayWant : GoodIn wsX5_wantOne wsX5_mayWant := goodIn_r _ [45, 2, 34, 35, 36, 9, 37, 13, 14, 6, 7, 8, 10, 11, 12, 15, 16, 17, 18, 19, 20, 21, 22, 23, 24, 25, 26, 27, 28, 29, 30, 31, 32, 33, 38, 39, 40, 41, 54, 55, 56, 57, 58, 59, 60, 61, 62, 63, 64, 65, 66, 67, 68, 69, 70, 71, 72, 73, 74, 75, 76, 77, 78, 79, 80, 81, 82, 83] (by decide +kernel) (by decide +kernel)
set_option maxRecDepth 20000 in
theorem gX5_wantOne_X5_mayWant : GoodIn wsX5_wantOne (wsV RX5 150 RX5 yX5_mayWant wsX5_mayWant) := goodIn_app (goodIn_of _ (by decide +kernel)) ggX5_wantOne_X5_mayWant
set_option maxRecDepth 20000 in
theorem ggX5_wantOne_X5_wantEnd : GoodIn wsX5_wantOne wsX5_wantEnd := goodIn_r _ [49, 2, 50, 51, 52, 9, 53, 13, 15, 6, 7, 8, 10, 11, 12, 14, 16, 17, 18, 19, 20, 21, 22, 23, 24, 25, 26, 27, 28, 29, 30, 31, 32, 33, 54, 55, 56, 57, 58, 59, 60, 61, 62, 63, 64, 65, 66, 67, 68, 69, 70, 71, 72, 73, 74, 75, 76, 77, 78, 79, 80, 81, 82, 83] (by decide +kernel) (by decide +kernel)
set_option maxRecDepth 20000 in
theorem gX5_wantOne_X5_wantEnd : GoodIn wsX5_wantOne (wsV RX5 156 RX5 yX5_wantEnd wsX5_wantEnd) := goodIn_app (goodIn_of _ (by decide +kernel)) ggX5_wantOne_X5_wantEnd
theorem dX5_wantOne_0 : decode cX5_wantOne 0 = .ok (.aload_n 0, 1) := by decide +kernel
theorem dX5_wantOne_1 : decode cX5_wantOne 1 = .ok (.aload_n 0, 1) := by decide +kernel
theorem dX5_wantOne_2 : decode cX5_wantOne 2 = .ok (.getfield 13, 3) := by decide +kernel
theorem dX5_wantOne_5 : decode cX5_wantOne 5 = .ok (.bipush 6, 2) := by decide +kernel
theorem dX5_wantOne_7 : decode cX5_wantOne 7 = .ok (.iaload, 1) := by decide +kernel
theorem dX5_wantOne_8 : decode cX5_wantOne 8 = .ok (.bipush 8, 2) := by decide +kernel
theorem dX5_wantOne_10 : decode cX5_wantOne 10 = .ok (.if_icmp .ge 7, 3) := by decide +kernel
theorem dX5_wantOne_13 : decode cX5_wantOne 13 = .ok (.iconst 1, 1) := by decide +kernel
theorem dX5_wantOne_14 : decode cX5_wantOne 14 = .ok (.goto 4, 3) := by decide +kernel
theorem dX5_wantOne_17 : decode cX5_wantOne 17 = .ok (.iconst 0, 1) := by decide +kernel
theorem dX5_wantOne_18 : decode cX5_wantOne 18 = .ok (.putfield 132, 3) := by decide +kernel
theorem dX5_wantOne_21 : decode cX5_wantOne 21 = .ok (.aload_n 0, 1) := by decide +kernel
theorem dX5_wantOne_22 : decode cX5_wantOne 22 = .ok (.getfield 132, 3) := by decide +kernel
theorem dX5_wantOne_25 : decode cX5_wantOne 25 = .ok (.ifCond .eq 18, 3) := by decide +kernel
theorem dX5_wantOne_28 : decode cX5_wantOne 28 = .ok (.aload_n 0, 1) := by decide +kernel
theorem dX5_wantOne_29 : decode cX5_wantOne 29 = .ok (.invokevirtual 136, 3) := by decide +kernel
theorem dX5_wantOne_32 : decode cX5_wantOne 32 = .ok (.aload_n 0, 1) := by decide +kernel
theorem dX5_wantOne_33 : decode cX5_wantOne 33 = .ok (.aload_n 0, 1) := by decide +kernel
theorem dX5_wantOne_34 : decode cX5_wantOne 34 = .ok (.ldc2_w 146, 3) := by decide +kernel
theorem dX5_wantOne_37 : decode cX5_wantOne 37 = .ok (.invokevirtual 104, 3) := by decide +kernel
theorem dX5_wantOne_40 : decode cX5_wantOne 40 = .ok (.putfield 132, 3) := by decide +kernel
theorem dX5_wantOne_43 : decode cX5_wantOne 43 = .ok (.aload_n 0, 1) := by decide +kernel
theorem dX5_wantOne_44 : decode cX5_wantOne 44 = .ok (.getfield 132, 3) := by decide +kernel
theorem dX5_wantOne_47 : decode cX5_wantOne 47 = .ok (.ifCond .eq 7, 3) := by decide +kernel
theorem dX5_wantOne_50 : decode cX5_wantOne 50 = .ok (.aload_n 0, 1) := by decide +kernel
theorem dX5_wantOne_51 : decode cX5_wantOne 51 = .ok (.invokevirtual 136, 3) := by decide +kernel
theorem dX5_wantOne_54 : decode cX5_wantOne 54 = .ok (.aload_n 0, 1) := by decide +kernel
theorem dX5_wantOne_55 : decode cX5_wantOne 55 = .ok (.iconst 0, 1) := by decide +kernel
theorem dX5_wantOne_56 : decode cX5_wantOne 56 = .ok (.bipush 9, 2) := by decide +kernel
theorem dX5_wantOne_58 : decode cX5_wantOne 58 = .ok (.invokevirtual 142, 3) := by decide +kernel
theorem dX5_wantOne_61 : decode cX5_wantOne 61 = .ok (.istore_n 2, 1) := by decide +kernel
theorem dX5_wantOne_62 : decode cX5_wantOne 62 = .ok (.aload_n 0, 1) := by decide +kernel
theorem dX5_wantOne_63 : decode cX5_wantOne 63 = .ok (.ldc2_w 148, 3) := by decide +kernel
theorem dX5_wantOne_66 : decode cX5_wantOne 66 = .ok (.bipush 9, 2) := by decide +kernel
theorem dX5_wantOne_68 : decode cX5_wantOne 68 = .ok (.iconst 0, 1) := by decide +kernel
theorem dX5_wantOne_69 : decode cX5_wantOne 69 = .ok (.invokevirtual 150, 3) := by decide +kernel
theorem dX5_wantOne_72 : decode cX5_wantOne 72 = .ok (.istore_n 3, 1) := by decide +kernel
theorem dX5_wantOne_73 : decode cX5_wantOne 73 = .ok (.aload_n 0, 1) := by decide +kernel
theorem dX5_wantOne_74 : decode cX5_wantOne 74 = .ok (.ldc2_w 154, 3) := by decide +kernel
theorem dX5_wantOne_77 : decode cX5_wantOne 77 = .ok (.bipush 99, 2) := by decide +kernel
theorem dX5_wantOne_79 : decode cX5_wantOne 79 = .ok (.iconst 5, 1) := by decide +kernel
theorem dX5_wantOne_80 : decode cX5_wantOne 80 = .ok (.invokevirtual 150, 3) := by decide +kernel
theorem dX5_wantOne_83 : decode cX5_wantOne 83 = .ok (.istore 4, 2) := by decide +kernel
theorem dX5_wantOne_85 : decode cX5_wantOne 85 = .ok (.aload_n 0, 1) := by decide +kernel
theorem dX5_wantOne_86 : decode cX5_wantOne 86 = .ok (.invokevirtual 156, 3) := by decide +kernel
theorem dX5_wantOne_89 : decode cX5_wantOne 89 = .ok (.aload_n 0, 1) := by decide +kernel
theorem dX5_wantOne_90 : decode cX5_wantOne 90 = .ok (.getfield 132, 3) := by decide +kernel
theorem dX5_wantOne_93 : decode cX5_wantOne 93 = .ok (.ifCond .eq 77, 3) := by decide +kernel
theorem dX5_wantOne_96 : decode cX5_wantOne 96 = .ok (.bipush 28, 2) := by decide +kernel
theorem dX5_wantOne_98 : decode cX5_wantOne 98 = .ok (.iconst 5, 1) := by decide +kernel
theorem dX5_wantOne_99 : decode cX5_wantOne 99 = .ok (.aload_n 0, 1) := by decide +kernel
theorem dX5_wantOne_100 : decode cX5_wantOne 100 = .ok (.getfield 13, 3) := by decide +kernel
theorem dX5_wantOne_103 : decode cX5_wantOne 103 = .ok (.bipush 6, 2) := by decide +kernel
theorem dX5_wantOne_105 : decode cX5_wantOne 105 = .ok (.iaload, 1) := by decide +kernel
theorem dX5_wantOne_106 : decode cX5_wantOne 106 = .ok (.imul, 1) := by decide +kernel
theorem dX5_wantOne_107 : decode cX5_wantOne 107 = .ok (.iadd, 1) := by decide +kernel
theorem dX5_wantOne_108 : decode cX5_wantOne 108 = .ok (.istore 5, 2) := by decide +kernel
theorem dX5_wantOne_110 : decode cX5_wantOne 110 = .ok (.aload_n 0, 1) := by decide +kernel
theorem dX5_wantOne_111 : decode cX5_wantOne 111 = .ok (.getfield 13, 3) := by decide +kernel
theorem dX5_wantOne_114 : decode cX5_wantOne 114 = .ok (.iload 5, 2) := by decide +kernel
theorem dX5_wantOne_116 : decode cX5_wantOne 116 = .ok (.iload_n 1, 1) := by decide +kernel
theorem dX5_wantOne_117 : decode cX5_wantOne 117 = .ok (.iastore, 1) := by decide +kernel
theorem dX5_wantOne_118 : decode cX5_wantOne 118 = .ok (.aload_n 0, 1) := by decide +kernel
theorem dX5_wantOne_119 : decode cX5_wantOne 119 = .ok (.getfield 13, 3) := by decide +kernel
theorem dX5_wantOne_122 : decode cX5_wantOne 122 = .ok (.iload 5, 2) := by decide +kernel
theorem dX5_wantOne_124 : decode cX5_wantOne 124 = .ok (.iconst 1, 1) := by decide +kernel
theorem dX5_wantOne_125 : decode cX5_wantOne 125 = .ok (.iadd, 1) := by decide +kernel
theorem dX5_wantOne_126 : decode cX5_wantOne 126 = .ok (.iload_n 3, 1) := by decide +kernel
theorem dX5_wantOne_127 : decode cX5_wantOne 127 = .ok (.iastore, 1) := by decide +kernel
theorem dX5_wantOne_128 : decode cX5_wantOne 128 = .ok (.aload_n 0, 1) := by decide +kernel
theorem dX5_wantOne_129 : decode cX5_wantOne 129 = .ok (.getfield 13, 3) := by decide +kernel
theorem dX5_wantOne_132 : decode cX5_wantOne 132 = .ok (.iload 5, 2) := by decide +kernel
theorem dX5_wantOne_134 : decode cX5_wantOne 134 = .ok (.iconst 2, 1) := by decide +kernel
theorem dX5_wantOne_135 : decode cX5_wantOne 135 = .ok (.iadd, 1) := by decide +kernel
theorem dX5_wantOne_136 : decode cX5_wantOne 136 = .ok (.iload 4, 2) := by decide +kernel
theorem dX5_wantOne_138 : decode cX5_wantOne 138 = .ok (.iastore, 1) := by decide +kernel
theorem dX5_wantOne_139 : decode cX5_wantOne 139 = .ok (.aload_n 0, 1) := by decide +kernel
theorem dX5_wantOne_140 : decode cX5_wantOne 140 = .ok (.getfield 13, 3) := by decide +kernel
theorem dX5_wantOne_143 : decode cX5_wantOne 143 = .ok (.iload 5, 2) := by decide +kernel
theorem dX5_wantOne_145 : decode cX5_wantOne 145 = .ok (.iconst 3, 1) := by decide +kernel
theorem dX5_wantOne_146 : decode cX5_wantOne 146 = .ok (.iadd, 1) := by decide +kernel
theorem dX5_wantOne_147 : decode cX5_wantOne 147 = .ok (.iload_n 2, 1) := by decide +kernel
theorem dX5_wantOne_148 : decode cX5_wantOne 148 = .ok (.iastore, 1) := by decide +kernel
theorem dX5_wantOne_149 : decode cX5_wantOne 149 = .ok (.aload_n 0, 1) := by decide +kernel
theorem dX5_wantOne_150 : decode cX5_wantOne 150 = .ok (.getfield 13, 3) := by decide +kernel
theorem dX5_wantOne_153 : decode cX5_wantOne 153 = .ok (.iload 5, 2) := by decide +kernel
theorem dX5_wantOne_155 : decode cX5_wantOne 155 = .ok (.iconst 4, 1) := by decide +kernel
theorem dX5_wantOne_156 : decode cX5_wantOne 156 = .ok (.iadd, 1) := by decide +kernel
theorem dX5_wantOne_157 : decode cX5_wantOne 157 = .ok (.iconst 0, 1) := by decide +kernel
theorem dX5_wantOne_158 : decode cX5_wantOne 158 = .ok (.iastore, 1) := by decide +kernel
theorem dX5_wantOne_159 : decode cX5_wantOne 159 = .ok (.aload_n 0, 1) := by decide +kernel
theorem dX5_wantOne_160 : decode cX5_wantOne 160 = .ok (.getfield 13, 3) := by decide +kernel
theorem dX5_wantOne_163 : decode cX5_wantOne 163 = .ok (.bipush 6, 2) := by decide +kernel
theorem dX5_wantOne_165 : decode cX5_wantOne 165 = .ok (.dup2, 1) := by decide +kernel
theorem dX5_wantOne_166 : decode cX5_wantOne 166 = .ok (.iaload, 1) := by decide +kernel
theorem dX5_wantOne_167 : decode cX5_wantOne 167 = .ok (.iconst 1, 1) := by decide +kernel
theorem dX5_wantOne_168 : decode cX5_wantOne 168 = .ok (.iadd, 1) := by decide +kernel
theorem dX5_wantOne_169 : decode cX5_wantOne 169 = .ok (.iastore, 1) := by decide +kernel
theorem dX5_wantOne_170 : decode cX5_wantOne 170 = .ok (.return_, 1) := by decide +kernel
set_option maxRecDepth 20000 in
theorem ggX5_wantWall_X5_advance : GoodIn wsX5_wantWall wsX5_advance := goodIn_r _ [8, 9, 10, 11, 12, 13, 14, 15, 16, 17, 18, 19, 7, 20, 21, 22, 23, 24, 25, 26, 27, 28, 29, 30, 31, 59, 60, 61, 62, 63, 64, 65, 66, 67, 68, 69, 70, 71, 72, 73, 74, 75, 76, 77, 78, 79, 80, 81, 82, 83, 84, 85, 86, 87, 88] (by decide +kernel) (by decide +kernel)
set_option maxRecDepth 20000 in
theorem gX5_wantWall_X5_advance : GoodIn wsX5_wantWall (wsV RX5 136 RX5 yX5_advance wsX5_advance) := goodIn_app (goodIn_of _ (by decide +kernel)) ggX5_wantWall_X5_advance
set_option maxRecDepth 20000 in
theorem ggX5_wantWall_X5_wantNumber : GoodIn wsX5_wantWall wsX5_wantNumber := goodIn_r _ [35, 13, 1, 11, 26, 27, 7, 28, 4, 5, 6, 8, 9, 10, 12, 14, 15, 16, 17, 18, 19, 20, 21, 22, 23, 24, 25, 29, 30, 31, 59, 60, 61, 62, 63, 64, 65, 66, 67, 68, 69, 70, 71, 72, 73, 74, 75, 76, 77, 78, 79, 80, 81, 82, 83, 84, 85, 86, 87, 88] (by decide +kernel) (by decide +kernel)
set_option maxRecDepth 20000 in
theorem gX5_wantWall_X5_wantNumber : GoodIn wsX5_wantWall (wsV RX5 142 RX5 yX5_wantNumber wsX5_wantNumber) := goodIn_app (goodIn_of _ (by decide +kernel)) ggX5_wantWall_X5_wantNumber
set_option maxRecDepth 20000 in
theorem ggX5_wantWall_X5_groundHere : GoodIn wsX5_wantWall wsX5_groundHere := goodIn_r _ [39, 40, 41, 42, 43, 44, 45, 7, 46, 11, 12, 59, 60, 61, 62, 63, 64, 65, 66, 67, 68, 69, 70, 71, 72, 73, 74, 75, 76, 77, 78, 79, 80, 81, 82, 83, 84, 85, 86, 87, 88] (by decide +kernel) (by decide +kernel)
set_option maxRecDepth 20000 in
theorem gX5_wantWall_X5_groundHere : GoodIn wsX5_wantWall (wsV RX5 159 RX5 yX5_groundHere wsX5_groundHere) := goodIn_app (goodIn_of _ (by decide +kernel)) ggX5_wantWall_X5_groundHere
set_option maxRecDepth 20000 in
theorem ggX5_wantWall_X5_mayWant : GoodIn wsX5_wantWall wsX5_mayWant := goodIn_r _ [50, 1, 43, 44, 45, 7, 46, 11, 12, 4, 5, 6, 8, 9, 10, 13, 14, 15, 16, 17, 18, 19, 20, 21, 22, 23, 24, 25, 26, 27, 28, 29, 30, 31, 32, 33, 34, 35, 59, 60, 61, 62, 63, 64, 65, 66, 67, 68, 69, 70, 71, 72, 73, 74, 75, 76, 77, 78, 79, 80, 81, 82, 83, 84, 85, 86, 87, 88] (by decide +kernel) (by decide +kernel)
set_option maxRecDepth 20000 in
theorem gX5_wantWall_X5_mayWant : GoodIn wsX5_wantWall (wsV RX5 150 RX5 yX5_mayWant wsX5_mayWant) := goodIn_app (goodIn_of _ (by decide +kernel)) ggX5_wantWall_X5_mayWant
set_option maxRecDepth 20000 in
theorem ggX5_wantWall_X5_wantEnd : GoodIn wsX5_wantWall wsX5_wantEnd := goodIn_r _ [54, 1, 55, 56, 57, 7, 58, 11, 13, 4, 5, 6, 8, 9, 10, 12, 14, 15, 16, 17, 18, 19, 20, 21, 22, 23, 24, 25, 26, 27, 28, 29, 30, 31, 59, 60, 61, 62, 63, 64, 65, 66, 67, 68, 69, 70, 71, 72, 73, 74, 75, 76, 77, 78, 79, 80, 81, 82, 83, 84, 85, 86, 87, 88] (by decide +kernel) (by decide +kernel)
set_option maxRecDepth 20000 in
theorem gX5_wantWall_X5_wantEnd : GoodIn wsX5_wantWall (wsV RX5 156 RX5 yX5_wantEnd wsX5_wantEnd) := goodIn_app (goodIn_of _ (by decide +kernel)) ggX5_wantWall_X5_wantEnd
theorem dX5_wantWall_0 : decode cX5_wantWall 0 = .ok (.aload_n 0, 1) := by decide +kernel
theorem dX5_wantWall_1 : decode cX5_wantWall 1 = .ok (.invokevirtual 136, 3) := by decide +kernel
theorem dX5_wantWall_4 : decode cX5_wantWall 4 = .ok (.aload_n 0, 1) := by decide +kernel
theorem dX5_wantWall_5 : decode cX5_wantWall 5 = .ok (.iconst 0, 1) := by decide +kernel
theorem dX5_wantWall_6 : decode cX5_wantWall 6 = .ok (.bipush 9, 2) := by decide +kernel
theorem dX5_wantWall_8 : decode cX5_wantWall 8 = .ok (.invokevirtual 142, 3) := by decide +kernel
theorem dX5_wantWall_11 : decode cX5_wantWall 11 = .ok (.istore_n 1, 1) := by decide +kernel
theorem dX5_wantWall_12 : decode cX5_wantWall 12 = .ok (.aload_n 0, 1) := by decide +kernel
theorem dX5_wantWall_13 : decode cX5_wantWall 13 = .ok (.getfield 132, 3) := by decide +kernel
theorem dX5_wantWall_16 : decode cX5_wantWall 16 = .ok (.ifCond .ne 4, 3) := by decide +kernel
theorem dX5_wantWall_19 : decode cX5_wantWall 19 = .ok (.return_, 1) := by decide +kernel
theorem dX5_wantWall_20 : decode cX5_wantWall 20 = .ok (.aload_n 0, 1) := by decide +kernel
theorem dX5_wantWall_21 : decode cX5_wantWall 21 = .ok (.invokevirtual 159, 3) := by decide +kernel
theorem dX5_wantWall_24 : decode cX5_wantWall 24 = .ok (.istore_n 2, 1) := by decide +kernel
theorem dX5_wantWall_25 : decode cX5_wantWall 25 = .ok (.aload_n 0, 1) := by decide +kernel
theorem dX5_wantWall_26 : decode cX5_wantWall 26 = .ok (.iload_n 2, 1) := by decide +kernel
theorem dX5_wantWall_27 : decode cX5_wantWall 27 = .ok (.ifCond .lt 7, 3) := by decide +kernel
theorem dX5_wantWall_30 : decode cX5_wantWall 30 = .ok (.iconst 1, 1) := by decide +kernel
theorem dX5_wantWall_31 : decode cX5_wantWall 31 = .ok (.goto 4, 3) := by decide +kernel
theorem dX5_wantWall_34 : decode cX5_wantWall 34 = .ok (.iconst 0, 1) := by decide +kernel
theorem dX5_wantWall_35 : decode cX5_wantWall 35 = .ok (.putfield 132, 3) := by decide +kernel
theorem dX5_wantWall_38 : decode cX5_wantWall 38 = .ok (.aload_n 0, 1) := by decide +kernel
theorem dX5_wantWall_39 : decode cX5_wantWall 39 = .ok (.getfield 132, 3) := by decide +kernel
theorem dX5_wantWall_42 : decode cX5_wantWall 42 = .ok (.ifCond .ne 4, 3) := by decide +kernel
theorem dX5_wantWall_45 : decode cX5_wantWall 45 = .ok (.return_, 1) := by decide +kernel
theorem dX5_wantWall_46 : decode cX5_wantWall 46 = .ok (.aload_n 0, 1) := by decide +kernel
theorem dX5_wantWall_47 : decode cX5_wantWall 47 = .ok (.invokevirtual 136, 3) := by decide +kernel
theorem dX5_wantWall_50 : decode cX5_wantWall 50 = .ok (.aload_n 0, 1) := by decide +kernel
theorem dX5_wantWall_51 : decode cX5_wantWall 51 = .ok (.ldc2_w 163, 3) := by decide +kernel
theorem dX5_wantWall_54 : decode cX5_wantWall 54 = .ok (.bipush 9, 2) := by decide +kernel
theorem dX5_wantWall_56 : decode cX5_wantWall 56 = .ok (.aload_n 0, 1) := by decide +kernel
theorem dX5_wantWall_57 : decode cX5_wantWall 57 = .ok (.getfield 13, 3) := by decide +kernel
theorem dX5_wantWall_60 : decode cX5_wantWall 60 = .ok (.bipush 8, 2) := by decide +kernel
theorem dX5_wantWall_62 : decode cX5_wantWall 62 = .ok (.iconst 2, 1) := by decide +kernel
theorem dX5_wantWall_63 : decode cX5_wantWall 63 = .ok (.iload_n 1, 1) := by decide +kernel
theorem dX5_wantWall_64 : decode cX5_wantWall 64 = .ok (.imul, 1) := by decide +kernel
theorem dX5_wantWall_65 : decode cX5_wantWall 65 = .ok (.iadd, 1) := by decide +kernel
theorem dX5_wantWall_66 : decode cX5_wantWall 66 = .ok (.iconst 1, 1) := by decide +kernel
theorem dX5_wantWall_67 : decode cX5_wantWall 67 = .ok (.iadd, 1) := by decide +kernel
theorem dX5_wantWall_68 : decode cX5_wantWall 68 = .ok (.iaload, 1) := by decide +kernel
theorem dX5_wantWall_69 : decode cX5_wantWall 69 = .ok (.invokevirtual 150, 3) := by decide +kernel
theorem dX5_wantWall_72 : decode cX5_wantWall 72 = .ok (.istore_n 3, 1) := by decide +kernel
theorem dX5_wantWall_73 : decode cX5_wantWall 73 = .ok (.aload_n 0, 1) := by decide +kernel
theorem dX5_wantWall_74 : decode cX5_wantWall 74 = .ok (.invokevirtual 156, 3) := by decide +kernel
theorem dX5_wantWall_77 : decode cX5_wantWall 77 = .ok (.aload_n 0, 1) := by decide +kernel
theorem dX5_wantWall_78 : decode cX5_wantWall 78 = .ok (.getfield 132, 3) := by decide +kernel
theorem dX5_wantWall_81 : decode cX5_wantWall 81 = .ok (.ifCond .eq 29, 3) := by decide +kernel
theorem dX5_wantWall_84 : decode cX5_wantWall 84 = .ok (.aload_n 0, 1) := by decide +kernel
theorem dX5_wantWall_85 : decode cX5_wantWall 85 = .ok (.getfield 13, 3) := by decide +kernel
theorem dX5_wantWall_88 : decode cX5_wantWall 88 = .ok (.bipush 8, 2) := by decide +kernel
theorem dX5_wantWall_90 : decode cX5_wantWall 90 = .ok (.iconst 2, 1) := by decide +kernel
theorem dX5_wantWall_91 : decode cX5_wantWall 91 = .ok (.iload_n 1, 1) := by decide +kernel
theorem dX5_wantWall_92 : decode cX5_wantWall 92 = .ok (.imul, 1) := by decide +kernel
theorem dX5_wantWall_93 : decode cX5_wantWall 93 = .ok (.iadd, 1) := by decide +kernel
theorem dX5_wantWall_94 : decode cX5_wantWall 94 = .ok (.iload_n 2, 1) := by decide +kernel
theorem dX5_wantWall_95 : decode cX5_wantWall 95 = .ok (.iastore, 1) := by decide +kernel
theorem dX5_wantWall_96 : decode cX5_wantWall 96 = .ok (.aload_n 0, 1) := by decide +kernel
theorem dX5_wantWall_97 : decode cX5_wantWall 97 = .ok (.getfield 13, 3) := by decide +kernel
theorem dX5_wantWall_100 : decode cX5_wantWall 100 = .ok (.bipush 8, 2) := by decide +kernel
theorem dX5_wantWall_102 : decode cX5_wantWall 102 = .ok (.iconst 2, 1) := by decide +kernel
theorem dX5_wantWall_103 : decode cX5_wantWall 103 = .ok (.iload_n 1, 1) := by decide +kernel
theorem dX5_wantWall_104 : decode cX5_wantWall 104 = .ok (.imul, 1) := by decide +kernel
theorem dX5_wantWall_105 : decode cX5_wantWall 105 = .ok (.iadd, 1) := by decide +kernel
theorem dX5_wantWall_106 : decode cX5_wantWall 106 = .ok (.iconst 1, 1) := by decide +kernel
theorem dX5_wantWall_107 : decode cX5_wantWall 107 = .ok (.iadd, 1) := by decide +kernel
theorem dX5_wantWall_108 : decode cX5_wantWall 108 = .ok (.iload_n 3, 1) := by decide +kernel
theorem dX5_wantWall_109 : decode cX5_wantWall 109 = .ok (.iastore, 1) := by decide +kernel
theorem dX5_wantWall_110 : decode cX5_wantWall 110 = .ok (.return_, 1) := by decide +kernel
set_option maxRecDepth 20000 in
theorem ggX5_wantClause_X5_lawHere : GoodIn wsX5_wantClause wsX5_lawHere := goodIn_r _ [8, 9, 10, 11, 12, 13, 14, 15, 7, 16, 17, 18, 92, 93, 94, 95, 96, 97, 98, 99, 100, 101, 102, 103, 104, 105, 106, 107, 108, 109, 110, 111, 112, 113, 114, 115, 116, 117, 118, 119, 120, 121] (by decide +kernel) (by decide +kernel)
set_option maxRecDepth 20000 in
theorem gX5_wantClause_X5_lawHere : GoodIn wsX5_wantClause (wsV RX5 165 RX5 yX5_lawHere wsX5_lawHere) := goodIn_app (goodIn_of _ (by decide +kernel)) ggX5_wantClause_X5_lawHere
set_option maxRecDepth 20000 in
theorem ggX5_wantClause_X5_kindHere : GoodIn wsX5_wantClause wsX5_kindHere := goodIn_r _ [22, 23, 24, 25, 26, 27, 28, 13, 14, 15, 7, 16, 17, 18, 92, 93, 94, 95, 96, 97, 98, 99, 100, 101, 102, 103, 104, 105, 106, 107, 108, 109, 110, 111, 112, 113, 114, 115, 116, 117, 118, 119, 120, 121] (by decide +kernel) (by decide +kernel)
set_option maxRecDepth 20000 in
theorem gX5_wantClause_X5_kindHere : GoodIn wsX5_wantClause (wsV RX5 168 RX5 yX5_kindHere wsX5_kindHere) := goodIn_app (goodIn_of _ (by decide +kernel)) ggX5_wantClause_X5_kindHere
set_option maxRecDepth 20000 in
theorem ggX5_wantClause_X5_wantOne : GoodIn wsX5_wantClause wsX5_wantOne := goodIn_r _ [32, 1, 3, 33, 34, 35, 36, 37, 38, 7, 39, 40, 41, 17, 18, 42, 43, 44, 45, 46, 47, 48, 49, 50, 51, 52, 53, 54, 55, 56, 57, 58, 59, 60, 13, 14, 15, 16, 61, 62, 63, 64, 65, 66, 67, 68, 69, 70, 71, 72, 73, 74, 75, 76, 92, 93, 94, 95, 96, 97, 98, 99, 100, 101, 102, 103, 104, 105, 106, 107, 108, 109, 110, 111, 112, 113, 114, 115, 116, 117, 118, 119, 120, 121] (by decide +kernel) (by decide +kernel)
set_option maxRecDepth 20000 in
theorem gX5_wantClause_X5_wantOne : GoodIn wsX5_wantClause (wsV RX5 171 RX5 yX5_wantOne wsX5_wantOne) := goodIn_app (goodIn_of _ (by decide +kernel)) ggX5_wantClause_X5_wantOne
set_option maxRecDepth 20000 in
theorem ggX5_wantClause_X5_advance : GoodIn wsX5_wantClause wsX5_advance := goodIn_r _ [39, 40, 41, 17, 18, 42, 43, 44, 45, 46, 47, 48, 7, 49, 50, 51, 52, 53, 54, 55, 56, 57, 58, 59, 60, 92, 93, 94, 95, 96, 97, 98, 99, 100, 101, 102, 103, 104, 105, 106, 107, 108, 109, 110, 111, 112, 113, 114, 115, 116, 117, 118, 119, 120, 121] (by decide +kernel) (by decide +kernel)
set_option maxRecDepth 20000 in
theorem gX5_wantClause_X5_advance : GoodIn wsX5_wantClause (wsV RX5 136 RX5 yX5_advance wsX5_advance) := goodIn_app (goodIn_of _ (by decide +kernel)) ggX5_wantClause_X5_advance
set_option maxRecDepth 20000 in
theorem ggX5_wantClause_X5_mostOf : GoodIn wsX5_wantClause wsX5_mostOf := goodIn_r _ [79] (by decide +kernel) (by decide +kernel)
set_option maxRecDepth 20000 in
theorem gX5_wantClause_X5_mostOf : GoodIn wsX5_wantClause (va_wsS RX5 175 yX5_mostOf wsX5_mostOf) := goodIn_app (goodIn_of _ (by decide +kernel)) ggX5_wantClause_X5_mostOf
set_option maxRecDepth 20000 in
theorem ggX5_wantClause_X5_wantNumber : GoodIn wsX5_wantClause wsX5_wantNumber := goodIn_r _ [64, 42, 3, 17, 55, 56, 7, 57, 36, 37, 38, 39, 40, 41, 18, 43, 44, 45, 46, 47, 48, 49, 50, 51, 52, 53, 54, 58, 59, 60, 92, 93, 94, 95, 96, 97, 98, 99, 100, 101, 102, 103, 104, 105, 106, 107, 108, 109, 110, 111, 112, 113, 114, 115, 116, 117, 118, 119, 120, 121] (by decide +kernel) (by decide +kernel)
set_option maxRecDepth 20000 in
theorem gX5_wantClause_X5_wantNumber : GoodIn wsX5_wantClause (wsV RX5 142 RX5 yX5_wantNumber wsX5_wantNumber) := goodIn_app (goodIn_of _ (by decide +kernel)) ggX5_wantClause_X5_wantNumber
set_option maxRecDepth 20000 in
theorem ggX5_wantClause_X5_wantEnd : GoodIn wsX5_wantClause wsX5_wantEnd := goodIn_r _ [72, 3, 73, 74, 75, 7, 76, 17, 42, 36, 37, 38, 39, 40, 41, 18, 43, 44, 45, 46, 47, 48, 49, 50, 51, 52, 53, 54, 55, 56, 57, 58, 59, 60, 92, 93, 94, 95, 96, 97, 98, 99, 100, 101, 102, 103, 104, 105, 106, 107, 108, 109, 110, 111, 112, 113, 114, 115, 116, 117, 118, 119, 120, 121] (by decide +kernel) (by decide +kernel)
set_option maxRecDepth 20000 in
theorem gX5_wantClause_X5_wantEnd : GoodIn wsX5_wantClause (wsV RX5 156 RX5 yX5_wantEnd wsX5_wantEnd) := goodIn_app (goodIn_of _ (by decide +kernel)) ggX5_wantClause_X5_wantEnd
set_option maxRecDepth 20000 in
theorem ggX5_wantClause_X5_isWord : GoodIn wsX5_wantClause wsX5_isWord := goodIn_r _ [16, 17, 18, 92, 93, 94, 95, 96, 97, 98, 99, 100, 101, 102, 103, 104, 105, 106, 107, 108, 109, 110, 111, 112, 113, 114, 115, 116, 117, 118, 119, 120, 121] (by decide +kernel) (by decide +kernel)
set_option maxRecDepth 20000 in
theorem gX5_wantClause_X5_isWord : GoodIn wsX5_wantClause (wsV RX5 104 RX5 yX5_isWord wsX5_isWord) := goodIn_app (goodIn_of _ (by decide +kernel)) ggX5_wantClause_X5_isWord
set_option maxRecDepth 20000 in
theorem ggX5_wantClause_X5_wantWall : GoodIn wsX5_wantClause wsX5_wantWall := goodIn_r _ [83, 3, 84, 1, 36, 37, 38, 7, 39, 40, 41, 17, 18, 42, 43, 44, 45, 46, 47, 48, 49, 50, 51, 52, 53, 54, 55, 56, 57, 58, 59, 60, 61, 62, 63, 64, 85, 86, 87, 88, 89, 90, 91, 13, 14, 15, 16, 65, 66, 67, 68, 69, 70, 71, 72, 73, 74, 75, 76, 92, 93, 94, 95, 96, 97, 98, 99, 100, 101, 102, 103, 104, 105, 106, 107, 108, 109, 110, 111, 112, 113, 114, 115, 116, 117, 118, 119, 120, 121] (by decide +kernel) (by decide +kernel)
set_option maxRecDepth 20000 in
theorem gX5_wantClause_X5_wantWall : GoodIn wsX5_wantClause (wsV RX5 180 RX5 yX5_wantWall wsX5_wantWall) := goodIn_app (goodIn_of _ (by decide +kernel)) ggX5_wantClause_X5_wantWall
theorem dX5_wantClause_0 : decode cX5_wantClause 0 = .ok (.aload_n 0, 1) := by decide +kernel
theorem dX5_wantClause_1 : decode cX5_wantClause 1 = .ok (.invokevirtual 165, 3) := by decide +kernel
theorem dX5_wantClause_4 : decode cX5_wantClause 4 = .ok (.istore_n 1, 1) := by decide +kernel
theorem dX5_wantClause_5 : decode cX5_wantClause 5 = .ok (.aload_n 0, 1) := by decide +kernel
theorem dX5_wantClause_6 : decode cX5_wantClause 6 = .ok (.invokevirtual 168, 3) := by decide +kernel
theorem dX5_wantClause_9 : decode cX5_wantClause 9 = .ok (.ifCond .lt 14, 3) := by decide +kernel
theorem dX5_wantClause_12 : decode cX5_wantClause 12 = .ok (.aload_n 0, 1) := by decide +kernel
theorem dX5_wantClause_13 : decode cX5_wantClause 13 = .ok (.aload_n 0, 1) := by decide +kernel
theorem dX5_wantClause_14 : decode cX5_wantClause 14 = .ok (.invokevirtual 168, 3) := by decide +kernel
theorem dX5_wantClause_17 : decode cX5_wantClause 17 = .ok (.invokevirtual 171, 3) := by decide +kernel
theorem dX5_wantClause_20 : decode cX5_wantClause 20 = .ok (.goto 55, 3) := by decide +kernel
theorem dX5_wantClause_23 : decode cX5_wantClause 23 = .ok (.iload_n 1, 1) := by decide +kernel
theorem dX5_wantClause_24 : decode cX5_wantClause 24 = .ok (.ifCond .lt 29, 3) := by decide +kernel
theorem dX5_wantClause_27 : decode cX5_wantClause 27 = .ok (.aload_n 0, 1) := by decide +kernel
theorem dX5_wantClause_28 : decode cX5_wantClause 28 = .ok (.invokevirtual 136, 3) := by decide +kernel
theorem dX5_wantClause_31 : decode cX5_wantClause 31 = .ok (.aload_n 0, 1) := by decide +kernel
theorem dX5_wantClause_32 : decode cX5_wantClause 32 = .ok (.getfield 13, 3) := by decide +kernel
theorem dX5_wantClause_35 : decode cX5_wantClause 35 = .ok (.iload_n 1, 1) := by decide +kernel
theorem dX5_wantClause_36 : decode cX5_wantClause 36 = .ok (.aload_n 0, 1) := by decide +kernel
theorem dX5_wantClause_37 : decode cX5_wantClause 37 = .ok (.iconst 0, 1) := by decide +kernel
theorem dX5_wantClause_38 : decode cX5_wantClause 38 = .ok (.iload_n 1, 1) := by decide +kernel
theorem dX5_wantClause_39 : decode cX5_wantClause 39 = .ok (.invokestatic 175, 3) := by decide +kernel
theorem dX5_wantClause_42 : decode cX5_wantClause 42 = .ok (.invokevirtual 142, 3) := by decide +kernel
theorem dX5_wantClause_45 : decode cX5_wantClause 45 = .ok (.iastore, 1) := by decide +kernel
theorem dX5_wantClause_46 : decode cX5_wantClause 46 = .ok (.aload_n 0, 1) := by decide +kernel
theorem dX5_wantClause_47 : decode cX5_wantClause 47 = .ok (.invokevirtual 156, 3) := by decide +kernel
theorem dX5_wantClause_50 : decode cX5_wantClause 50 = .ok (.goto 25, 3) := by decide +kernel
theorem dX5_wantClause_53 : decode cX5_wantClause 53 = .ok (.aload_n 0, 1) := by decide +kernel
theorem dX5_wantClause_54 : decode cX5_wantClause 54 = .ok (.ldc2_w 178, 3) := by decide +kernel
theorem dX5_wantClause_57 : decode cX5_wantClause 57 = .ok (.invokevirtual 104, 3) := by decide +kernel
theorem dX5_wantClause_60 : decode cX5_wantClause 60 = .ok (.ifCond .eq 10, 3) := by decide +kernel
theorem dX5_wantClause_63 : decode cX5_wantClause 63 = .ok (.aload_n 0, 1) := by decide +kernel
theorem dX5_wantClause_64 : decode cX5_wantClause 64 = .ok (.invokevirtual 180, 3) := by decide +kernel
theorem dX5_wantClause_67 : decode cX5_wantClause 67 = .ok (.goto 8, 3) := by decide +kernel
theorem dX5_wantClause_70 : decode cX5_wantClause 70 = .ok (.aload_n 0, 1) := by decide +kernel
theorem dX5_wantClause_71 : decode cX5_wantClause 71 = .ok (.iconst 0, 1) := by decide +kernel
theorem dX5_wantClause_72 : decode cX5_wantClause 72 = .ok (.putfield 132, 3) := by decide +kernel
theorem dX5_wantClause_75 : decode cX5_wantClause 75 = .ok (.return_, 1) := by decide +kernel
set_option maxRecDepth 20000 in
theorem ggX5_town_X5_begins : GoodIn wsX5_town wsX5_begins := goodIn_r _ [12] (by decide +kernel) (by decide +kernel)
set_option maxRecDepth 20000 in
theorem gX5_town_X5_begins : GoodIn wsX5_town (va_wsS RX5 56 yX5_begins wsX5_begins) := goodIn_app (goodIn_of _ (by decide +kernel)) ggX5_town_X5_begins
set_option maxRecDepth 20000 in
theorem ggX5_town_X5_advance : GoodIn wsX5_town wsX5_advance := goodIn_r _ [16, 1, 6, 4, 17, 18, 19, 20, 21, 22, 23, 24, 11, 25, 5, 26, 27, 28, 29, 30, 31, 32, 33, 34, 35, 104, 105, 106, 107, 108, 109, 110, 111, 112, 113, 114, 115, 116, 117, 118, 119, 120, 121, 122, 123, 124, 125, 126, 127, 128, 129, 130, 131, 132, 133] (by decide +kernel) (by decide +kernel)
set_option maxRecDepth 20000 in
theorem gX5_town_X5_advance : GoodIn wsX5_town (wsV RX5 136 RX5 yX5_advance wsX5_advance) := goodIn_app (goodIn_of _ (by decide +kernel)) ggX5_town_X5_advance
set_option maxRecDepth 20000 in
theorem ggX5_town_X5_wantClause : GoodIn wsX5_town wsX5_wantClause := goodIn_r _ [39, 3, 40, 2, 41, 42, 43, 11, 44, 45, 46, 47, 48, 49, 50, 51, 52, 4, 17, 53, 54, 55, 56, 57, 58, 59, 60, 61, 62, 63, 64, 65, 66, 67, 68, 69, 13, 14, 15, 16, 1, 6, 18, 19, 20, 21, 22, 23, 24, 25, 5, 26, 27, 28, 29, 30, 31, 32, 33, 34, 35, 70, 71, 72, 73, 74, 75, 76, 77, 78, 79, 80, 81, 82, 83, 84, 85, 86, 87, 88, 89, 90, 91, 92, 93, 94, 95, 96, 97, 98, 99, 100, 104, 105, 106, 107, 108, 109, 110, 111, 112, 113, 114, 115, 116, 117, 118, 119, 120, 121, 122, 123, 124, 125, 126, 127, 128, 129, 130, 131, 132, 133] (by decide +kernel) (by decide +kernel)
set_option maxRecDepth 20000 in
theorem gX5_town_X5_wantClause : GoodIn wsX5_town (wsV RX5 183 RX5 yX5_wantClause wsX5_wantClause) := goodIn_app (goodIn_of _ (by decide +kernel)) ggX5_town_X5_wantClause
set_option maxRecDepth 20000 in
theorem ggX5_town_X5_moveAll : GoodIn wsX5_town wsX5_moveAll := goodIn_r _ [103] (by decide +kernel) (by decide +kernel)
set_option maxRecDepth 20000 in
theorem gX5_town_X5_moveAll : GoodIn wsX5_town (va_wsS RX5 186 yX5_moveAll wsX5_moveAll) := goodIn_app (goodIn_of _ (by decide +kernel)) ggX5_town_X5_moveAll
theorem dX5_town_0 : decode cX5_town 0 = .ok (.aload_n 0, 1) := by decide +kernel
theorem dX5_town_1 : decode cX5_town 1 = .ok (.iconst 0, 1) := by decide +kernel
theorem dX5_town_2 : decode cX5_town 2 = .ok (.putfield 70, 3) := by decide +kernel
theorem dX5_town_5 : decode cX5_town 5 = .ok (.aload_n 0, 1) := by decide +kernel
theorem dX5_town_6 : decode cX5_town 6 = .ok (.iconst 1, 1) := by decide +kernel
theorem dX5_town_7 : decode cX5_town 7 = .ok (.putfield 132, 3) := by decide +kernel
theorem dX5_town_10 : decode cX5_town 10 = .ok (.aload_n 0, 1) := by decide +kernel
theorem dX5_town_11 : decode cX5_town 11 = .ok (.getfield 13, 3) := by decide +kernel
theorem dX5_town_14 : decode cX5_town 14 = .ok (.invokestatic 56, 3) := by decide +kernel
theorem dX5_town_17 : decode cX5_town 17 = .ok (.aload_n 0, 1) := by decide +kernel
theorem dX5_town_18 : decode cX5_town 18 = .ok (.invokevirtual 136, 3) := by decide +kernel
theorem dX5_town_21 : decode cX5_town 21 = .ok (.aload_n 0, 1) := by decide +kernel
theorem dX5_town_22 : decode cX5_town 22 = .ok (.getfield 132, 3) := by decide +kernel
theorem dX5_town_25 : decode cX5_town 25 = .ok (.ifCond .eq 17, 3) := by decide +kernel
theorem dX5_town_28 : decode cX5_town 28 = .ok (.aload_n 0, 1) := by decide +kernel
theorem dX5_town_29 : decode cX5_town 29 = .ok (.getfield 86, 3) := by decide +kernel
theorem dX5_town_32 : decode cX5_town 32 = .ok (.ifCond .eq 10, 3) := by decide +kernel
theorem dX5_town_35 : decode cX5_town 35 = .ok (.aload_n 0, 1) := by decide +kernel
theorem dX5_town_36 : decode cX5_town 36 = .ok (.invokevirtual 183, 3) := by decide +kernel
theorem dX5_town_39 : decode cX5_town 39 = .ok (.goto (-18), 3) := by decide +kernel
theorem dX5_town_42 : decode cX5_town 42 = .ok (.aload_n 0, 1) := by decide +kernel
theorem dX5_town_43 : decode cX5_town 43 = .ok (.iconst 0, 1) := by decide +kernel
theorem dX5_town_44 : decode cX5_town 44 = .ok (.putfield 64, 3) := by decide +kernel
theorem dX5_town_47 : decode cX5_town 47 = .ok (.aload_n 0, 1) := by decide +kernel
theorem dX5_town_48 : decode cX5_town 48 = .ok (.getfield 132, 3) := by decide +kernel
theorem dX5_town_51 : decode cX5_town 51 = .ok (.ifCond .ne 11, 3) := by decide +kernel
theorem dX5_town_54 : decode cX5_town 54 = .ok (.bipush (-100), 2) := by decide +kernel
theorem dX5_town_56 : decode cX5_town 56 = .ok (.aload_n 0, 1) := by decide +kernel
theorem dX5_town_57 : decode cX5_town 57 = .ok (.getfield 73, 3) := by decide +kernel
theorem dX5_town_60 : decode cX5_town 60 = .ok (.isub, 1) := by decide +kernel
theorem dX5_town_61 : decode cX5_town 61 = .ok (.ireturn, 1) := by decide +kernel
theorem dX5_town_62 : decode cX5_town 62 = .ok (.aload_n 0, 1) := by decide +kernel
theorem dX5_town_63 : decode cX5_town 63 = .ok (.getfield 13, 3) := by decide +kernel
theorem dX5_town_66 : decode cX5_town 66 = .ok (.bipush 7, 2) := by decide +kernel
theorem dX5_town_68 : decode cX5_town 68 = .ok (.aload_n 0, 1) := by decide +kernel
theorem dX5_town_69 : decode cX5_town 69 = .ok (.getfield 7, 3) := by decide +kernel
theorem dX5_town_72 : decode cX5_town 72 = .ok (.bipush 7, 2) := by decide +kernel
theorem dX5_town_74 : decode cX5_town 74 = .ok (.iaload, 1) := by decide +kernel
theorem dX5_town_75 : decode cX5_town 75 = .ok (.iastore, 1) := by decide +kernel
theorem dX5_town_76 : decode cX5_town 76 = .ok (.aload_n 0, 1) := by decide +kernel
theorem dX5_town_77 : decode cX5_town 77 = .ok (.getfield 13, 3) := by decide +kernel
theorem dX5_town_80 : decode cX5_town 80 = .ok (.aload_n 0, 1) := by decide +kernel
theorem dX5_town_81 : decode cX5_town 81 = .ok (.getfield 7, 3) := by decide +kernel
theorem dX5_town_84 : decode cX5_town 84 = .ok (.invokestatic 186, 3) := by decide +kernel
theorem dX5_town_87 : decode cX5_town 87 = .ok (.aload_n 0, 1) := by decide +kernel
theorem dX5_town_88 : decode cX5_town 88 = .ok (.iconst 0, 1) := by decide +kernel
theorem dX5_town_89 : decode cX5_town 89 = .ok (.putfield 190, 3) := by decide +kernel
theorem dX5_town_92 : decode cX5_town 92 = .ok (.aload_n 0, 1) := by decide +kernel
theorem dX5_town_93 : decode cX5_town 93 = .ok (.getfield 7, 3) := by decide +kernel
theorem dX5_town_96 : decode cX5_town 96 = .ok (.bipush 6, 2) := by decide +kernel
theorem dX5_town_98 : decode cX5_town 98 = .ok (.iaload, 1) := by decide +kernel
theorem dX5_town_99 : decode cX5_town 99 = .ok (.ireturn, 1) := by decide +kernel
theorem dX5_mostOf_0 : decode cX5_mostOf 0 = .ok (.iload_n 0, 1) := by decide +kernel
theorem dX5_mostOf_1 : decode cX5_mostOf 1 = .ok (.iconst 2, 1) := by decide +kernel
theorem dX5_mostOf_2 : decode cX5_mostOf 2 = .ok (.if_icmp .ge 8, 3) := by decide +kernel
theorem dX5_mostOf_5 : decode cX5_mostOf 5 = .ok (.bipush 9, 2) := by decide +kernel
theorem dX5_mostOf_7 : decode cX5_mostOf 7 = .ok (.goto 5, 3) := by decide +kernel
theorem dX5_mostOf_10 : decode cX5_mostOf 10 = .ok (.bipush 99, 2) := by decide +kernel
theorem dX5_mostOf_12 : decode cX5_mostOf 12 = .ok (.ireturn, 1) := by decide +kernel
set_option maxRecDepth 20000 in
theorem ggX5_set_X5_in : GoodIn wsX5_set wsX5_in := goodIn_r _ [4] (by decide +kernel) (by decide +kernel)
set_option maxRecDepth 20000 in
theorem gX5_set_X5_in : GoodIn wsX5_set (va_wsS RX5 60 yX5_in wsX5_in) := goodIn_app (goodIn_of _ (by decide +kernel)) ggX5_set_X5_in
set_option maxRecDepth 20000 in
theorem ggX5_set_X5_mostOf : GoodIn wsX5_set wsX5_mostOf := goodIn_r _ [7] (by decide +kernel) (by decide +kernel)
set_option maxRecDepth 20000 in
theorem gX5_set_X5_mostOf : GoodIn wsX5_set (va_wsS RX5 175 yX5_mostOf wsX5_mostOf) := goodIn_app (goodIn_of _ (by decide +kernel)) ggX5_set_X5_mostOf
set_option maxRecDepth 20000 in
theorem ggX5_set_X5_becomes : GoodIn wsX5_set wsX5_becomes := goodIn_r _ [11, 12, 13, 14, 15, 16, 17, 18, 19, 20, 21, 22, 23, 24, 25, 26, 27, 28, 29, 30, 31, 32, 33, 34, 35, 36, 37, 38, 39, 40, 41, 42] (by decide +kernel) (by decide +kernel)
set_option maxRecDepth 20000 in
theorem gX5_set_X5_becomes : GoodIn wsX5_set (wsV RX5 193 RX5 yX5_becomes wsX5_becomes) := goodIn_app (goodIn_of _ (by decide +kernel)) ggX5_set_X5_becomes
theorem dX5_set_0 : decode cX5_set 0 = .ok (.iload_n 1, 1) := by decide +kernel
theorem dX5_set_1 : decode cX5_set 1 = .ok (.iconst 0, 1) := by decide +kernel
theorem dX5_set_2 : decode cX5_set 2 = .ok (.iconst 3, 1) := by decide +kernel
theorem dX5_set_3 : decode cX5_set 3 = .ok (.invokestatic 60, 3) := by decide +kernel
theorem dX5_set_6 : decode cX5_set 6 = .ok (.ifCond .eq 24, 3) := by decide +kernel
theorem dX5_set_9 : decode cX5_set 9 = .ok (.iload_n 2, 1) := by decide +kernel
theorem dX5_set_10 : decode cX5_set 10 = .ok (.iconst 0, 1) := by decide +kernel
theorem dX5_set_11 : decode cX5_set 11 = .ok (.iload_n 1, 1) := by decide +kernel
theorem dX5_set_12 : decode cX5_set 12 = .ok (.invokestatic 175, 3) := by decide +kernel
theorem dX5_set_15 : decode cX5_set 15 = .ok (.invokestatic 60, 3) := by decide +kernel
theorem dX5_set_18 : decode cX5_set 18 = .ok (.ifCond .eq 12, 3) := by decide +kernel
theorem dX5_set_21 : decode cX5_set 21 = .ok (.aload_n 0, 1) := by decide +kernel
theorem dX5_set_22 : decode cX5_set 22 = .ok (.iload_n 1, 1) := by decide +kernel
theorem dX5_set_23 : decode cX5_set 23 = .ok (.iload_n 2, 1) := by decide +kernel
theorem dX5_set_24 : decode cX5_set 24 = .ok (.invokevirtual 193, 3) := by decide +kernel
theorem dX5_set_27 : decode cX5_set 27 = .ok (.goto 4, 3) := by decide +kernel
theorem dX5_set_30 : decode cX5_set 30 = .ok (.iconst (-1), 1) := by decide +kernel
theorem dX5_set_31 : decode cX5_set 31 = .ok (.ireturn, 1) := by decide +kernel
set_option maxRecDepth 20000 in
theorem ggX5_lawOf_X5_in : GoodIn wsX5_lawOf wsX5_in := goodIn_r _ [5] (by decide +kernel) (by decide +kernel)
set_option maxRecDepth 20000 in
theorem gX5_lawOf_X5_in : GoodIn wsX5_lawOf (va_wsS RX5 60 yX5_in wsX5_in) := goodIn_app (goodIn_of _ (by decide +kernel)) ggX5_lawOf_X5_in
theorem dX5_lawOf_0 : decode cX5_lawOf 0 = .ok (.iload_n 1, 1) := by decide +kernel
theorem dX5_lawOf_1 : decode cX5_lawOf 1 = .ok (.iconst 0, 1) := by decide +kernel
theorem dX5_lawOf_2 : decode cX5_lawOf 2 = .ok (.iconst 3, 1) := by decide +kernel
theorem dX5_lawOf_3 : decode cX5_lawOf 3 = .ok (.invokestatic 60, 3) := by decide +kernel
theorem dX5_lawOf_6 : decode cX5_lawOf 6 = .ok (.ifCond .eq 12, 3) := by decide +kernel
theorem dX5_lawOf_9 : decode cX5_lawOf 9 = .ok (.aload_n 0, 1) := by decide +kernel
theorem dX5_lawOf_10 : decode cX5_lawOf 10 = .ok (.getfield 7, 3) := by decide +kernel
theorem dX5_lawOf_13 : decode cX5_lawOf 13 = .ok (.iload_n 1, 1) := by decide +kernel
theorem dX5_lawOf_14 : decode cX5_lawOf 14 = .ok (.iaload, 1) := by decide +kernel
theorem dX5_lawOf_15 : decode cX5_lawOf 15 = .ok (.goto 4, 3) := by decide +kernel
theorem dX5_lawOf_18 : decode cX5_lawOf 18 = .ok (.iconst (-1), 1) := by decide +kernel
theorem dX5_lawOf_19 : decode cX5_lawOf 19 = .ok (.ireturn, 1) := by decide +kernel
set_option maxRecDepth 20000 in
theorem ggX5_isKind_X5_in : GoodIn wsX5_isKind wsX5_in := goodIn_r _ [4] (by decide +kernel) (by decide +kernel)
set_option maxRecDepth 20000 in
theorem gX5_isKind_X5_in : GoodIn wsX5_isKind (va_wsS RX5 60 yX5_in wsX5_in) := goodIn_app (goodIn_of _ (by decide +kernel)) ggX5_isKind_X5_in
theorem dX5_isKind_0 : decode cX5_isKind 0 = .ok (.iload_n 0, 1) := by decide +kernel
theorem dX5_isKind_1 : decode cX5_isKind 1 = .ok (.iconst 0, 1) := by decide +kernel
theorem dX5_isKind_2 : decode cX5_isKind 2 = .ok (.iconst 5, 1) := by decide +kernel
theorem dX5_isKind_3 : decode cX5_isKind 3 = .ok (.invokestatic 60, 3) := by decide +kernel
theorem dX5_isKind_6 : decode cX5_isKind 6 = .ok (.ifCond .eq 17, 3) := by decide +kernel
theorem dX5_isKind_9 : decode cX5_isKind 9 = .ok (.iload_n 1, 1) := by decide +kernel
theorem dX5_isKind_10 : decode cX5_isKind 10 = .ok (.iconst 0, 1) := by decide +kernel
theorem dX5_isKind_11 : decode cX5_isKind 11 = .ok (.bipush 9, 2) := by decide +kernel
theorem dX5_isKind_13 : decode cX5_isKind 13 = .ok (.invokestatic 60, 3) := by decide +kernel
theorem dX5_isKind_16 : decode cX5_isKind 16 = .ok (.ifCond .eq 7, 3) := by decide +kernel
theorem dX5_isKind_19 : decode cX5_isKind 19 = .ok (.iconst 1, 1) := by decide +kernel
theorem dX5_isKind_20 : decode cX5_isKind 20 = .ok (.goto 4, 3) := by decide +kernel
theorem dX5_isKind_23 : decode cX5_isKind 23 = .ok (.iconst 0, 1) := by decide +kernel
theorem dX5_isKind_24 : decode cX5_isKind 24 = .ok (.ireturn, 1) := by decide +kernel
set_option maxRecDepth 20000 in
theorem ggX5_name_X5_isKind : GoodIn wsX5_name wsX5_isKind := goodIn_r _ [5, 6, 7, 4, 8] (by decide +kernel) (by decide +kernel)
set_option maxRecDepth 20000 in
theorem gX5_name_X5_isKind : GoodIn wsX5_name (va_wsS RX5 196 yX5_isKind wsX5_isKind) := goodIn_app (goodIn_of _ (by decide +kernel)) ggX5_name_X5_isKind
set_option maxRecDepth 20000 in
theorem ggX5_name_X5_in : GoodIn wsX5_name wsX5_in := goodIn_r _ [8] (by decide +kernel) (by decide +kernel)
set_option maxRecDepth 20000 in
theorem gX5_name_X5_in : GoodIn wsX5_name (va_wsS RX5 60 yX5_in wsX5_in) := goodIn_app (goodIn_of _ (by decide +kernel)) ggX5_name_X5_in
set_option maxRecDepth 20000 in
theorem ggX5_name_X5_isWall : GoodIn wsX5_name wsX5_isWall := goodIn_r _ [11, 6, 7, 4, 8] (by decide +kernel) (by decide +kernel)
set_option maxRecDepth 20000 in
theorem gX5_name_X5_isWall : GoodIn wsX5_name (va_wsS RX5 200 yX5_isWall wsX5_isWall) := goodIn_app (goodIn_of _ (by decide +kernel)) ggX5_name_X5_isWall
set_option maxRecDepth 20000 in
theorem ggX5_name_X5_sets : GoodIn wsX5_name wsX5_sets := goodIn_r _ [15, 1, 16, 17, 18, 19, 20, 21, 22, 23, 24, 25, 26, 27, 28, 29, 30, 31, 32, 33, 34, 35, 36, 37, 38, 39, 40, 41, 42, 43, 44, 45] (by decide +kernel) (by decide +kernel)
set_option maxRecDepth 20000 in
theorem gX5_name_X5_sets : GoodIn wsX5_name (wsV RX5 203 RX5 yX5_sets wsX5_sets) := goodIn_app (goodIn_of _ (by decide +kernel)) ggX5_name_X5_sets
theorem dX5_name_0 : decode cX5_name 0 = .ok (.iload_n 1, 1) := by decide +kernel
theorem dX5_name_1 : decode cX5_name 1 = .ok (.iload_n 2, 1) := by decide +kernel
theorem dX5_name_2 : decode cX5_name 2 = .ok (.invokestatic 196, 3) := by decide +kernel
theorem dX5_name_5 : decode cX5_name 5 = .ok (.ifCond .eq 21, 3) := by decide +kernel
theorem dX5_name_8 : decode cX5_name 8 = .ok (.iload_n 3, 1) := by decide +kernel
theorem dX5_name_9 : decode cX5_name 9 = .ok (.iconst 0, 1) := by decide +kernel
theorem dX5_name_10 : decode cX5_name 10 = .ok (.bipush 99, 2) := by decide +kernel
theorem dX5_name_12 : decode cX5_name 12 = .ok (.invokestatic 60, 3) := by decide +kernel
theorem dX5_name_15 : decode cX5_name 15 = .ok (.ifCond .eq 11, 3) := by decide +kernel
theorem dX5_name_18 : decode cX5_name 18 = .ok (.iload 4, 2) := by decide +kernel
theorem dX5_name_20 : decode cX5_name 20 = .ok (.invokestatic 200, 3) := by decide +kernel
theorem dX5_name_23 : decode cX5_name 23 = .ok (.ifCond .ne 5, 3) := by decide +kernel
theorem dX5_name_26 : decode cX5_name 26 = .ok (.iconst (-1), 1) := by decide +kernel
theorem dX5_name_27 : decode cX5_name 27 = .ok (.ireturn, 1) := by decide +kernel
theorem dX5_name_28 : decode cX5_name 28 = .ok (.aload_n 0, 1) := by decide +kernel
theorem dX5_name_29 : decode cX5_name 29 = .ok (.getfield 7, 3) := by decide +kernel
theorem dX5_name_32 : decode cX5_name 32 = .ok (.bipush 6, 2) := by decide +kernel
theorem dX5_name_34 : decode cX5_name 34 = .ok (.iaload, 1) := by decide +kernel
theorem dX5_name_35 : decode cX5_name 35 = .ok (.bipush 8, 2) := by decide +kernel
theorem dX5_name_37 : decode cX5_name 37 = .ok (.if_icmp .ne 6, 3) := by decide +kernel
theorem dX5_name_40 : decode cX5_name 40 = .ok (.bipush (-2), 2) := by decide +kernel
theorem dX5_name_42 : decode cX5_name 42 = .ok (.ireturn, 1) := by decide +kernel
theorem dX5_name_43 : decode cX5_name 43 = .ok (.aload_n 0, 1) := by decide +kernel
theorem dX5_name_44 : decode cX5_name 44 = .ok (.getfield 7, 3) := by decide +kernel
theorem dX5_name_47 : decode cX5_name 47 = .ok (.bipush 6, 2) := by decide +kernel
theorem dX5_name_49 : decode cX5_name 49 = .ok (.iaload, 1) := by decide +kernel
theorem dX5_name_50 : decode cX5_name 50 = .ok (.istore 5, 2) := by decide +kernel
theorem dX5_name_52 : decode cX5_name 52 = .ok (.aload_n 0, 1) := by decide +kernel
theorem dX5_name_53 : decode cX5_name 53 = .ok (.iload 5, 2) := by decide +kernel
theorem dX5_name_55 : decode cX5_name 55 = .ok (.iconst 0, 1) := by decide +kernel
theorem dX5_name_56 : decode cX5_name 56 = .ok (.iload_n 1, 1) := by decide +kernel
theorem dX5_name_57 : decode cX5_name 57 = .ok (.invokevirtual 203, 3) := by decide +kernel
theorem dX5_name_60 : decode cX5_name 60 = .ok (.aload_n 0, 1) := by decide +kernel
theorem dX5_name_61 : decode cX5_name 61 = .ok (.iload 5, 2) := by decide +kernel
theorem dX5_name_63 : decode cX5_name 63 = .ok (.iconst 1, 1) := by decide +kernel
theorem dX5_name_64 : decode cX5_name 64 = .ok (.iload_n 2, 1) := by decide +kernel
theorem dX5_name_65 : decode cX5_name 65 = .ok (.invokevirtual 203, 3) := by decide +kernel
theorem dX5_name_68 : decode cX5_name 68 = .ok (.aload_n 0, 1) := by decide +kernel
theorem dX5_name_69 : decode cX5_name 69 = .ok (.iload 5, 2) := by decide +kernel
theorem dX5_name_71 : decode cX5_name 71 = .ok (.iconst 2, 1) := by decide +kernel
theorem dX5_name_72 : decode cX5_name 72 = .ok (.iload_n 3, 1) := by decide +kernel
theorem dX5_name_73 : decode cX5_name 73 = .ok (.invokevirtual 203, 3) := by decide +kernel
theorem dX5_name_76 : decode cX5_name 76 = .ok (.aload_n 0, 1) := by decide +kernel
theorem dX5_name_77 : decode cX5_name 77 = .ok (.iload 5, 2) := by decide +kernel
theorem dX5_name_79 : decode cX5_name 79 = .ok (.iconst 3, 1) := by decide +kernel
theorem dX5_name_80 : decode cX5_name 80 = .ok (.iload 4, 2) := by decide +kernel
theorem dX5_name_82 : decode cX5_name 82 = .ok (.invokevirtual 203, 3) := by decide +kernel
theorem dX5_name_85 : decode cX5_name 85 = .ok (.aload_n 0, 1) := by decide +kernel
theorem dX5_name_86 : decode cX5_name 86 = .ok (.iload 5, 2) := by decide +kernel
theorem dX5_name_88 : decode cX5_name 88 = .ok (.iconst 4, 1) := by decide +kernel
theorem dX5_name_89 : decode cX5_name 89 = .ok (.iconst 0, 1) := by decide +kernel
theorem dX5_name_90 : decode cX5_name 90 = .ok (.invokevirtual 203, 3) := by decide +kernel
theorem dX5_name_93 : decode cX5_name 93 = .ok (.aload_n 0, 1) := by decide +kernel
theorem dX5_name_94 : decode cX5_name 94 = .ok (.getfield 7, 3) := by decide +kernel
theorem dX5_name_97 : decode cX5_name 97 = .ok (.bipush 6, 2) := by decide +kernel
theorem dX5_name_99 : decode cX5_name 99 = .ok (.dup2, 1) := by decide +kernel
theorem dX5_name_100 : decode cX5_name 100 = .ok (.iaload, 1) := by decide +kernel
theorem dX5_name_101 : decode cX5_name 101 = .ok (.iconst 1, 1) := by decide +kernel
theorem dX5_name_102 : decode cX5_name 102 = .ok (.iadd, 1) := by decide +kernel
theorem dX5_name_103 : decode cX5_name 103 = .ok (.iastore, 1) := by decide +kernel
theorem dX5_name_104 : decode cX5_name 104 = .ok (.iload 5, 2) := by decide +kernel
theorem dX5_name_106 : decode cX5_name 106 = .ok (.ireturn, 1) := by decide +kernel
set_option maxRecDepth 20000 in
theorem ggX5_of_X5_isOne : GoodIn wsX5_of wsX5_isOne := goodIn_r _ [5, 6, 7, 8, 4, 9, 14, 15, 16, 17, 18, 19, 20, 21, 22, 23, 24, 25, 26, 27, 28, 29, 30, 31, 32, 33, 34, 35, 36, 37, 38, 39, 40, 41, 42, 43] (by decide +kernel) (by decide +kernel)
set_option maxRecDepth 20000 in
theorem gX5_of_X5_isOne : GoodIn wsX5_of (wsV RX5 207 RX5 yX5_isOne wsX5_isOne) := goodIn_app (goodIn_of _ (by decide +kernel)) ggX5_of_X5_isOne
set_option maxRecDepth 20000 in
theorem ggX5_of_X5_in : GoodIn wsX5_of wsX5_in := goodIn_r _ [9] (by decide +kernel) (by decide +kernel)
set_option maxRecDepth 20000 in
theorem gX5_of_X5_in : GoodIn wsX5_of (va_wsS RX5 60 yX5_in wsX5_in) := goodIn_app (goodIn_of _ (by decide +kernel)) ggX5_of_X5_in
set_option maxRecDepth 20000 in
theorem ggX5_of_X5_its : GoodIn wsX5_of wsX5_its := goodIn_r _ [13, 6, 14, 15, 16, 17, 18, 19, 20, 21, 22, 23, 24, 25, 26, 27, 28, 29, 30, 31, 32, 33, 34, 35, 36, 37, 38, 39, 40, 41, 42, 43] (by decide +kernel) (by decide +kernel)
set_option maxRecDepth 20000 in
theorem gX5_of_X5_its : GoodIn wsX5_of (wsV RX5 210 RX5 yX5_its wsX5_its) := goodIn_app (goodIn_of _ (by decide +kernel)) ggX5_of_X5_its
theorem dX5_of_0 : decode cX5_of 0 = .ok (.aload_n 0, 1) := by decide +kernel
theorem dX5_of_1 : decode cX5_of 1 = .ok (.iload_n 1, 1) := by decide +kernel
theorem dX5_of_2 : decode cX5_of 2 = .ok (.invokevirtual 207, 3) := by decide +kernel
theorem dX5_of_5 : decode cX5_of 5 = .ok (.ifCond .eq 21, 3) := by decide +kernel
theorem dX5_of_8 : decode cX5_of 8 = .ok (.iload_n 2, 1) := by decide +kernel
theorem dX5_of_9 : decode cX5_of 9 = .ok (.iconst 0, 1) := by decide +kernel
theorem dX5_of_10 : decode cX5_of 10 = .ok (.iconst 4, 1) := by decide +kernel
theorem dX5_of_11 : decode cX5_of 11 = .ok (.invokestatic 60, 3) := by decide +kernel
theorem dX5_of_14 : decode cX5_of 14 = .ok (.ifCond .eq 12, 3) := by decide +kernel
theorem dX5_of_17 : decode cX5_of 17 = .ok (.aload_n 0, 1) := by decide +kernel
theorem dX5_of_18 : decode cX5_of 18 = .ok (.iload_n 1, 1) := by decide +kernel
theorem dX5_of_19 : decode cX5_of 19 = .ok (.iload_n 2, 1) := by decide +kernel
theorem dX5_of_20 : decode cX5_of 20 = .ok (.invokevirtual 210, 3) := by decide +kernel
theorem dX5_of_23 : decode cX5_of 23 = .ok (.goto 4, 3) := by decide +kernel
theorem dX5_of_26 : decode cX5_of 26 = .ok (.iconst (-1), 1) := by decide +kernel
theorem dX5_of_27 : decode cX5_of 27 = .ok (.ireturn, 1) := by decide +kernel
set_option maxRecDepth 20000 in
theorem ggX5_isGone_X5_its : GoodIn wsX5_isGone wsX5_its := goodIn_r _ [5, 6, 7, 8, 9, 10, 11, 12, 13, 14, 15, 16, 17, 18, 19, 20, 21, 22, 23, 24, 25, 26, 27, 28, 29, 30, 31, 32, 33, 34, 35, 36] (by decide +kernel) (by decide +kernel)
set_option maxRecDepth 20000 in
theorem gX5_isGone_X5_its : GoodIn wsX5_isGone (wsV RX5 210 RX5 yX5_its wsX5_its) := goodIn_app (goodIn_of _ (by decide +kernel)) ggX5_isGone_X5_its
theorem dX5_isGone_0 : decode cX5_isGone 0 = .ok (.aload_n 0, 1) := by decide +kernel
theorem dX5_isGone_1 : decode cX5_isGone 1 = .ok (.iload_n 1, 1) := by decide +kernel
theorem dX5_isGone_2 : decode cX5_isGone 2 = .ok (.iconst 3, 1) := by decide +kernel
theorem dX5_isGone_3 : decode cX5_isGone 3 = .ok (.invokevirtual 210, 3) := by decide +kernel
theorem dX5_isGone_6 : decode cX5_isGone 6 = .ok (.bipush 10, 2) := by decide +kernel
theorem dX5_isGone_8 : decode cX5_isGone 8 = .ok (.if_icmp .ne 7, 3) := by decide +kernel
theorem dX5_isGone_11 : decode cX5_isGone 11 = .ok (.iconst 1, 1) := by decide +kernel
theorem dX5_isGone_12 : decode cX5_isGone 12 = .ok (.goto 4, 3) := by decide +kernel
theorem dX5_isGone_15 : decode cX5_isGone 15 = .ok (.iconst 0, 1) := by decide +kernel
theorem dX5_isGone_16 : decode cX5_isGone 16 = .ok (.ireturn, 1) := by decide +kernel
set_option maxRecDepth 20000 in
theorem ggX5_onWall_X5_its : GoodIn wsX5_onWall wsX5_its := goodIn_r _ [6, 1, 7, 8, 9, 10, 11, 12, 13, 14, 15, 16, 17, 18, 19, 20, 21, 22, 23, 24, 25, 26, 27, 28, 29, 30, 31, 32, 33, 34, 35, 36] (by decide +kernel) (by decide +kernel)
set_option maxRecDepth 20000 in
theorem gX5_onWall_X5_its : GoodIn wsX5_onWall (wsV RX5 210 RX5 yX5_its wsX5_its) := goodIn_app (goodIn_of _ (by decide +kernel)) ggX5_onWall_X5_its
theorem dX5_onWall_0 : decode cX5_onWall 0 = .ok (.iconst 0, 1) := by decide +kernel
theorem dX5_onWall_1 : decode cX5_onWall 1 = .ok (.istore_n 2, 1) := by decide +kernel
theorem dX5_onWall_2 : decode cX5_onWall 2 = .ok (.iconst 0, 1) := by decide +kernel
theorem dX5_onWall_3 : decode cX5_onWall 3 = .ok (.istore_n 3, 1) := by decide +kernel
theorem dX5_onWall_4 : decode cX5_onWall 4 = .ok (.iload_n 3, 1) := by decide +kernel
theorem dX5_onWall_5 : decode cX5_onWall 5 = .ok (.aload_n 0, 1) := by decide +kernel
theorem dX5_onWall_6 : decode cX5_onWall 6 = .ok (.getfield 7, 3) := by decide +kernel
theorem dX5_onWall_9 : decode cX5_onWall 9 = .ok (.bipush 6, 2) := by decide +kernel
theorem dX5_onWall_11 : decode cX5_onWall 11 = .ok (.iaload, 1) := by decide +kernel
theorem dX5_onWall_12 : decode cX5_onWall 12 = .ok (.if_icmp .ge 29, 3) := by decide +kernel
theorem dX5_onWall_15 : decode cX5_onWall 15 = .ok (.iload_n 2, 1) := by decide +kernel
theorem dX5_onWall_16 : decode cX5_onWall 16 = .ok (.aload_n 0, 1) := by decide +kernel
theorem dX5_onWall_17 : decode cX5_onWall 17 = .ok (.iload_n 3, 1) := by decide +kernel
theorem dX5_onWall_18 : decode cX5_onWall 18 = .ok (.iconst 3, 1) := by decide +kernel
theorem dX5_onWall_19 : decode cX5_onWall 19 = .ok (.invokevirtual 210, 3) := by decide +kernel
theorem dX5_onWall_22 : decode cX5_onWall 22 = .ok (.iload_n 1, 1) := by decide +kernel
theorem dX5_onWall_23 : decode cX5_onWall 23 = .ok (.if_icmp .ne 9, 3) := by decide +kernel
theorem dX5_onWall_26 : decode cX5_onWall 26 = .ok (.iconst 1, 1) := by decide +kernel
theorem dX5_onWall_27 : decode cX5_onWall 27 = .ok (.iload_n 3, 1) := by decide +kernel
theorem dX5_onWall_28 : decode cX5_onWall 28 = .ok (.ishl, 1) := by decide +kernel
theorem dX5_onWall_29 : decode cX5_onWall 29 = .ok (.goto 4, 3) := by decide +kernel
theorem dX5_onWall_32 : decode cX5_onWall 32 = .ok (.iconst 0, 1) := by decide +kernel
theorem dX5_onWall_33 : decode cX5_onWall 33 = .ok (.ior, 1) := by decide +kernel
theorem dX5_onWall_34 : decode cX5_onWall 34 = .ok (.istore_n 2, 1) := by decide +kernel
theorem dX5_onWall_35 : decode cX5_onWall 35 = .ok (.iinc 3 1, 3) := by decide +kernel
theorem dX5_onWall_38 : decode cX5_onWall 38 = .ok (.goto (-34), 3) := by decide +kernel
theorem dX5_onWall_41 : decode cX5_onWall 41 = .ok (.iload_n 2, 1) := by decide +kernel
theorem dX5_onWall_42 : decode cX5_onWall 42 = .ok (.ireturn, 1) := by decide +kernel
set_option maxRecDepth 20000 in
theorem ggX5_others_X5_its : GoodIn wsX5_others wsX5_its := goodIn_r _ [5, 6, 14, 15, 16, 17, 18, 19, 20, 21, 22, 23, 24, 25, 26, 27, 28, 29, 30, 31, 32, 33, 34, 35, 36, 37, 38, 39, 40, 41, 42, 43] (by decide +kernel) (by decide +kernel)
set_option maxRecDepth 20000 in
theorem gX5_others_X5_its : GoodIn wsX5_others (wsV RX5 210 RX5 yX5_its wsX5_its) := goodIn_app (goodIn_of _ (by decide +kernel)) ggX5_others_X5_its
set_option maxRecDepth 20000 in
theorem ggX5_others_X5_onWall : GoodIn wsX5_others wsX5_onWall := goodIn_r _ [10, 6, 1, 2, 3, 4, 5, 14, 15, 16, 17, 18, 19, 20, 21, 22, 23, 24, 25, 26, 27, 28, 29, 30, 31, 32, 33, 34, 35, 36, 37, 38, 39, 40, 41, 42, 43] (by decide +kernel) (by decide +kernel)
set_option maxRecDepth 20000 in
theorem gX5_others_X5_onWall : GoodIn wsX5_others (wsV RX5 213 RX5 yX5_onWall wsX5_onWall) := goodIn_app (goodIn_of _ (by decide +kernel)) ggX5_others_X5_onWall
set_option maxRecDepth 20000 in
theorem ggX5_others_X5_ones : GoodIn wsX5_others wsX5_ones := goodIn_r _ [13] (by decide +kernel) (by decide +kernel)
set_option maxRecDepth 20000 in
theorem gX5_others_X5_ones : GoodIn wsX5_others (va_wsS RX5 216 yX5_ones wsX5_ones) := goodIn_app (goodIn_of _ (by decide +kernel)) ggX5_others_X5_ones
theorem dX5_others_0 : decode cX5_others 0 = .ok (.aload_n 0, 1) := by decide +kernel
theorem dX5_others_1 : decode cX5_others 1 = .ok (.aload_n 0, 1) := by decide +kernel
theorem dX5_others_2 : decode cX5_others 2 = .ok (.iload_n 1, 1) := by decide +kernel
theorem dX5_others_3 : decode cX5_others 3 = .ok (.iconst 3, 1) := by decide +kernel
theorem dX5_others_4 : decode cX5_others 4 = .ok (.invokevirtual 210, 3) := by decide +kernel
theorem dX5_others_7 : decode cX5_others 7 = .ok (.invokevirtual 213, 3) := by decide +kernel
theorem dX5_others_10 : decode cX5_others 10 = .ok (.invokestatic 216, 3) := by decide +kernel
theorem dX5_others_13 : decode cX5_others 13 = .ok (.iconst 1, 1) := by decide +kernel
theorem dX5_others_14 : decode cX5_others 14 = .ok (.isub, 1) := by decide +kernel
theorem dX5_others_15 : decode cX5_others 15 = .ok (.ireturn, 1) := by decide +kernel
set_option maxRecDepth 20000 in
theorem ggX5_grows_X5_its : GoodIn wsX5_grows wsX5_its := goodIn_r _ [6, 1, 22, 23, 24, 25, 26, 27, 28, 29, 30, 31, 32, 33, 34, 35, 36, 37, 38, 39, 40, 41, 42, 43, 44, 45, 46, 47, 48, 49, 50, 51] (by decide +kernel) (by decide +kernel)
set_option maxRecDepth 20000 in
theorem gX5_grows_X5_its : GoodIn wsX5_grows (wsV RX5 210 RX5 yX5_its wsX5_its) := goodIn_app (goodIn_of _ (by decide +kernel)) ggX5_grows_X5_its
set_option maxRecDepth 20000 in
theorem ggX5_grows_X5_ground : GoodIn wsX5_grows wsX5_ground := goodIn_r _ [10, 1, 22, 23, 24, 25, 26, 27, 28, 29, 30, 31, 32, 33, 34, 35, 36, 37, 38, 39, 40, 41, 42, 43, 44, 45, 46, 47, 48, 49, 50, 51] (by decide +kernel) (by decide +kernel)
set_option maxRecDepth 20000 in
theorem gX5_grows_X5_ground : GoodIn wsX5_grows (wsV RX5 219 RX5 yX5_ground wsX5_ground) := goodIn_app (goodIn_of _ (by decide +kernel)) ggX5_grows_X5_ground
set_option maxRecDepth 20000 in
theorem ggX5_grows_X5_others : GoodIn wsX5_grows wsX5_others := goodIn_r _ [14, 2, 3, 4, 5, 6, 1, 15, 16, 17, 18, 19, 20, 21, 22, 23, 24, 25, 26, 27, 28, 29, 30, 31, 32, 33, 34, 35, 36, 37, 38, 39, 40, 41, 42, 43, 44, 45, 46, 47, 48, 49, 50, 51] (by decide +kernel) (by decide +kernel)
set_option maxRecDepth 20000 in
theorem gX5_grows_X5_others : GoodIn wsX5_grows (wsV RX5 222 RX5 yX5_others wsX5_others) := goodIn_app (goodIn_of _ (by decide +kernel)) ggX5_grows_X5_others
theorem dX5_grows_0 : decode cX5_grows 0 = .ok (.aload_n 0, 1) := by decide +kernel
theorem dX5_grows_1 : decode cX5_grows 1 = .ok (.aload_n 0, 1) := by decide +kernel
theorem dX5_grows_2 : decode cX5_grows 2 = .ok (.iload_n 1, 1) := by decide +kernel
theorem dX5_grows_3 : decode cX5_grows 3 = .ok (.iconst 3, 1) := by decide +kernel
theorem dX5_grows_4 : decode cX5_grows 4 = .ok (.invokevirtual 210, 3) := by decide +kernel
theorem dX5_grows_7 : decode cX5_grows 7 = .ok (.invokevirtual 219, 3) := by decide +kernel
theorem dX5_grows_10 : decode cX5_grows 10 = .ok (.iconst 1, 1) := by decide +kernel
theorem dX5_grows_11 : decode cX5_grows 11 = .ok (.if_icmp .ne 14, 3) := by decide +kernel
theorem dX5_grows_14 : decode cX5_grows 14 = .ok (.iconst 2, 1) := by decide +kernel
theorem dX5_grows_15 : decode cX5_grows 15 = .ok (.aload_n 0, 1) := by decide +kernel
theorem dX5_grows_16 : decode cX5_grows 16 = .ok (.getfield 7, 3) := by decide +kernel
theorem dX5_grows_19 : decode cX5_grows 19 = .ok (.iconst 1, 1) := by decide +kernel
theorem dX5_grows_20 : decode cX5_grows 20 = .ok (.iaload, 1) := by decide +kernel
theorem dX5_grows_21 : decode cX5_grows 21 = .ok (.iadd, 1) := by decide +kernel
theorem dX5_grows_22 : decode cX5_grows 22 = .ok (.goto 4, 3) := by decide +kernel
theorem dX5_grows_25 : decode cX5_grows 25 = .ok (.iconst 2, 1) := by decide +kernel
theorem dX5_grows_26 : decode cX5_grows 26 = .ok (.istore_n 2, 1) := by decide +kernel
theorem dX5_grows_27 : decode cX5_grows 27 = .ok (.aload_n 0, 1) := by decide +kernel
theorem dX5_grows_28 : decode cX5_grows 28 = .ok (.iload_n 1, 1) := by decide +kernel
theorem dX5_grows_29 : decode cX5_grows 29 = .ok (.iconst 0, 1) := by decide +kernel
theorem dX5_grows_30 : decode cX5_grows 30 = .ok (.invokevirtual 210, 3) := by decide +kernel
theorem dX5_grows_33 : decode cX5_grows 33 = .ok (.tableswitch 59 1 5 #[35, 41, 37, 49, 57], 35) := by decide +kernel
theorem dX5_grows_68 : decode cX5_grows 68 = .ok (.iload_n 2, 1) := by decide +kernel
theorem dX5_grows_69 : decode cX5_grows 69 = .ok (.ireturn, 1) := by decide +kernel
theorem dX5_grows_70 : decode cX5_grows 70 = .ok (.iconst 2, 1) := by decide +kernel
theorem dX5_grows_71 : decode cX5_grows 71 = .ok (.iload_n 2, 1) := by decide +kernel
theorem dX5_grows_72 : decode cX5_grows 72 = .ok (.imul, 1) := by decide +kernel
theorem dX5_grows_73 : decode cX5_grows 73 = .ok (.ireturn, 1) := by decide +kernel
theorem dX5_grows_74 : decode cX5_grows 74 = .ok (.iconst 2, 1) := by decide +kernel
theorem dX5_grows_75 : decode cX5_grows 75 = .ok (.aload_n 0, 1) := by decide +kernel
theorem dX5_grows_76 : decode cX5_grows 76 = .ok (.iload_n 1, 1) := by decide +kernel
theorem dX5_grows_77 : decode cX5_grows 77 = .ok (.invokevirtual 222, 3) := by decide +kernel
theorem dX5_grows_80 : decode cX5_grows 80 = .ok (.isub, 1) := by decide +kernel
theorem dX5_grows_81 : decode cX5_grows 81 = .ok (.ireturn, 1) := by decide +kernel
theorem dX5_grows_82 : decode cX5_grows 82 = .ok (.iconst 5, 1) := by decide +kernel
theorem dX5_grows_83 : decode cX5_grows 83 = .ok (.aload_n 0, 1) := by decide +kernel
theorem dX5_grows_84 : decode cX5_grows 84 = .ok (.iload_n 1, 1) := by decide +kernel
theorem dX5_grows_85 : decode cX5_grows 85 = .ok (.invokevirtual 222, 3) := by decide +kernel
theorem dX5_grows_88 : decode cX5_grows 88 = .ok (.isub, 1) := by decide +kernel
theorem dX5_grows_89 : decode cX5_grows 89 = .ok (.ireturn, 1) := by decide +kernel
theorem dX5_grows_90 : decode cX5_grows 90 = .ok (.iconst 0, 1) := by decide +kernel
theorem dX5_grows_91 : decode cX5_grows 91 = .ok (.ireturn, 1) := by decide +kernel
theorem dX5_grows_92 : decode cX5_grows 92 = .ok (.iconst 2, 1) := by decide +kernel
theorem dX5_grows_93 : decode cX5_grows 93 = .ok (.ireturn, 1) := by decide +kernel
set_option maxRecDepth 20000 in
theorem ggX5_holds_X5_its : GoodIn wsX5_holds wsX5_its := goodIn_r _ [6, 1, 18, 19, 20, 21, 22, 23, 24, 25, 26, 27, 28, 29, 30, 31, 32, 33, 34, 35, 36, 37, 38, 39, 40, 41, 42, 43, 44, 45, 46, 47] (by decide +kernel) (by decide +kernel)
set_option maxRecDepth 20000 in
theorem gX5_holds_X5_its : GoodIn wsX5_holds (wsV RX5 210 RX5 yX5_its wsX5_its) := goodIn_app (goodIn_of _ (by decide +kernel)) ggX5_holds_X5_its
set_option maxRecDepth 20000 in
theorem ggX5_holds_X5_others : GoodIn wsX5_holds wsX5_others := goodIn_r _ [10, 2, 3, 4, 5, 6, 1, 11, 12, 13, 14, 15, 16, 17, 18, 19, 20, 21, 22, 23, 24, 25, 26, 27, 28, 29, 30, 31, 32, 33, 34, 35, 36, 37, 38, 39, 40, 41, 42, 43, 44, 45, 46, 47] (by decide +kernel) (by decide +kernel)
set_option maxRecDepth 20000 in
theorem gX5_holds_X5_others : GoodIn wsX5_holds (wsV RX5 222 RX5 yX5_others wsX5_others) := goodIn_app (goodIn_of _ (by decide +kernel)) ggX5_holds_X5_others
theorem dX5_holds_0 : decode cX5_holds 0 = .ok (.aload_n 0, 1) := by decide +kernel
theorem dX5_holds_1 : decode cX5_holds 1 = .ok (.iload_n 1, 1) := by decide +kernel
theorem dX5_holds_2 : decode cX5_holds 2 = .ok (.iconst 2, 1) := by decide +kernel
theorem dX5_holds_3 : decode cX5_holds 3 = .ok (.invokevirtual 210, 3) := by decide +kernel
theorem dX5_holds_6 : decode cX5_holds 6 = .ok (.iconst 2, 1) := by decide +kernel
theorem dX5_holds_7 : decode cX5_holds 7 = .ok (.idiv, 1) := by decide +kernel
theorem dX5_holds_8 : decode cX5_holds 8 = .ok (.istore_n 2, 1) := by decide +kernel
theorem dX5_holds_9 : decode cX5_holds 9 = .ok (.aload_n 0, 1) := by decide +kernel
theorem dX5_holds_10 : decode cX5_holds 10 = .ok (.iload_n 1, 1) := by decide +kernel
theorem dX5_holds_11 : decode cX5_holds 11 = .ok (.iconst 0, 1) := by decide +kernel
theorem dX5_holds_12 : decode cX5_holds 12 = .ok (.invokevirtual 210, 3) := by decide +kernel
theorem dX5_holds_15 : decode cX5_holds 15 = .ok (.tableswitch 75 1 5 #[33, 58, 42, 62, 72], 33) := by decide +kernel
theorem dX5_holds_48 : decode cX5_holds 48 = .ok (.iload_n 2, 1) := by decide +kernel
theorem dX5_holds_49 : decode cX5_holds 49 = .ok (.aload_n 0, 1) := by decide +kernel
theorem dX5_holds_50 : decode cX5_holds 50 = .ok (.getfield 7, 3) := by decide +kernel
theorem dX5_holds_53 : decode cX5_holds 53 = .ok (.iconst 1, 1) := by decide +kernel
theorem dX5_holds_54 : decode cX5_holds 54 = .ok (.iaload, 1) := by decide +kernel
theorem dX5_holds_55 : decode cX5_holds 55 = .ok (.isub, 1) := by decide +kernel
theorem dX5_holds_56 : decode cX5_holds 56 = .ok (.ireturn, 1) := by decide +kernel
theorem dX5_holds_57 : decode cX5_holds 57 = .ok (.iload_n 2, 1) := by decide +kernel
theorem dX5_holds_58 : decode cX5_holds 58 = .ok (.aload_n 0, 1) := by decide +kernel
theorem dX5_holds_59 : decode cX5_holds 59 = .ok (.getfield 7, 3) := by decide +kernel
theorem dX5_holds_62 : decode cX5_holds 62 = .ok (.iconst 1, 1) := by decide +kernel
theorem dX5_holds_63 : decode cX5_holds 63 = .ok (.iaload, 1) := by decide +kernel
theorem dX5_holds_64 : decode cX5_holds 64 = .ok (.isub, 1) := by decide +kernel
theorem dX5_holds_65 : decode cX5_holds 65 = .ok (.aload_n 0, 1) := by decide +kernel
theorem dX5_holds_66 : decode cX5_holds 66 = .ok (.iload_n 1, 1) := by decide +kernel
theorem dX5_holds_67 : decode cX5_holds 67 = .ok (.iconst 1, 1) := by decide +kernel
theorem dX5_holds_68 : decode cX5_holds 68 = .ok (.invokevirtual 210, 3) := by decide +kernel
theorem dX5_holds_71 : decode cX5_holds 71 = .ok (.iadd, 1) := by decide +kernel
theorem dX5_holds_72 : decode cX5_holds 72 = .ok (.ireturn, 1) := by decide +kernel
theorem dX5_holds_73 : decode cX5_holds 73 = .ok (.iload_n 2, 1) := by decide +kernel
theorem dX5_holds_74 : decode cX5_holds 74 = .ok (.iconst 5, 1) := by decide +kernel
theorem dX5_holds_75 : decode cX5_holds 75 = .ok (.iadd, 1) := by decide +kernel
theorem dX5_holds_76 : decode cX5_holds 76 = .ok (.ireturn, 1) := by decide +kernel
theorem dX5_holds_77 : decode cX5_holds 77 = .ok (.iload_n 2, 1) := by decide +kernel
theorem dX5_holds_78 : decode cX5_holds 78 = .ok (.iconst 5, 1) := by decide +kernel
theorem dX5_holds_79 : decode cX5_holds 79 = .ok (.iadd, 1) := by decide +kernel
theorem dX5_holds_80 : decode cX5_holds 80 = .ok (.aload_n 0, 1) := by decide +kernel
theorem dX5_holds_81 : decode cX5_holds 81 = .ok (.iload_n 1, 1) := by decide +kernel
theorem dX5_holds_82 : decode cX5_holds 82 = .ok (.invokevirtual 222, 3) := by decide +kernel
theorem dX5_holds_85 : decode cX5_holds 85 = .ok (.iadd, 1) := by decide +kernel
theorem dX5_holds_86 : decode cX5_holds 86 = .ok (.ireturn, 1) := by decide +kernel
theorem dX5_holds_87 : decode cX5_holds 87 = .ok (.bipush 99, 2) := by decide +kernel
theorem dX5_holds_89 : decode cX5_holds 89 = .ok (.ireturn, 1) := by decide +kernel
theorem dX5_holds_90 : decode cX5_holds 90 = .ok (.iload_n 2, 1) := by decide +kernel
theorem dX5_holds_91 : decode cX5_holds 91 = .ok (.ireturn, 1) := by decide +kernel
set_option maxRecDepth 20000 in
theorem ggX5_back_X5_its : GoodIn wsX5_back wsX5_its := goodIn_r _ [5, 6, 7, 8, 9, 10, 11, 12, 13, 14, 15, 16, 17, 18, 19, 20, 21, 22, 23, 24, 25, 26, 27, 28, 29, 30, 31, 32, 33, 34, 35, 36] (by decide +kernel) (by decide +kernel)
set_option maxRecDepth 20000 in
theorem gX5_back_X5_its : GoodIn wsX5_back (wsV RX5 210 RX5 yX5_its wsX5_its) := goodIn_app (goodIn_of _ (by decide +kernel)) ggX5_back_X5_its
theorem dX5_back_0 : decode cX5_back 0 = .ok (.aload_n 0, 1) := by decide +kernel
theorem dX5_back_1 : decode cX5_back 1 = .ok (.iload_n 1, 1) := by decide +kernel
theorem dX5_back_2 : decode cX5_back 2 = .ok (.iconst 0, 1) := by decide +kernel
theorem dX5_back_3 : decode cX5_back 3 = .ok (.invokevirtual 210, 3) := by decide +kernel
theorem dX5_back_6 : decode cX5_back 6 = .ok (.tableswitch 59 1 5 #[34, 36, 34, 45, 56], 34) := by decide +kernel
theorem dX5_back_40 : decode cX5_back 40 = .ok (.iconst 1, 1) := by decide +kernel
theorem dX5_back_41 : decode cX5_back 41 = .ok (.ireturn, 1) := by decide +kernel
theorem dX5_back_42 : decode cX5_back 42 = .ok (.iconst 3, 1) := by decide +kernel
theorem dX5_back_43 : decode cX5_back 43 = .ok (.aload_n 0, 1) := by decide +kernel
theorem dX5_back_44 : decode cX5_back 44 = .ok (.iload_n 1, 1) := by decide +kernel
theorem dX5_back_45 : decode cX5_back 45 = .ok (.iconst 1, 1) := by decide +kernel
theorem dX5_back_46 : decode cX5_back 46 = .ok (.invokevirtual 210, 3) := by decide +kernel
theorem dX5_back_49 : decode cX5_back 49 = .ok (.iadd, 1) := by decide +kernel
theorem dX5_back_50 : decode cX5_back 50 = .ok (.ireturn, 1) := by decide +kernel
theorem dX5_back_51 : decode cX5_back 51 = .ok (.iconst 3, 1) := by decide +kernel
theorem dX5_back_52 : decode cX5_back 52 = .ok (.aload_n 0, 1) := by decide +kernel
theorem dX5_back_53 : decode cX5_back 53 = .ok (.iload_n 1, 1) := by decide +kernel
theorem dX5_back_54 : decode cX5_back 54 = .ok (.iconst 1, 1) := by decide +kernel
theorem dX5_back_55 : decode cX5_back 55 = .ok (.invokevirtual 210, 3) := by decide +kernel
theorem dX5_back_58 : decode cX5_back 58 = .ok (.iadd, 1) := by decide +kernel
theorem dX5_back_59 : decode cX5_back 59 = .ok (.iconst 2, 1) := by decide +kernel
theorem dX5_back_60 : decode cX5_back 60 = .ok (.idiv, 1) := by decide +kernel
theorem dX5_back_61 : decode cX5_back 61 = .ok (.ireturn, 1) := by decide +kernel
theorem dX5_back_62 : decode cX5_back 62 = .ok (.bipush 9, 2) := by decide +kernel
theorem dX5_back_64 : decode cX5_back 64 = .ok (.ireturn, 1) := by decide +kernel
theorem dX5_back_65 : decode cX5_back 65 = .ok (.iconst 3, 1) := by decide +kernel
theorem dX5_back_66 : decode cX5_back 66 = .ok (.ireturn, 1) := by decide +kernel
set_option maxRecDepth 20000 in
theorem ggX5_does_X5_isOne : GoodIn wsX5_does wsX5_isOne := goodIn_r _ [5, 6, 7, 8, 4, 9, 45, 46, 47, 48, 49, 50, 51, 52, 53, 54, 55, 56, 57, 58, 59, 60, 61, 62, 63, 64, 65, 66, 67, 68, 69, 70, 71, 72, 73, 74] (by decide +kernel) (by decide +kernel)
set_option maxRecDepth 20000 in
theorem gX5_does_X5_isOne : GoodIn wsX5_does (wsV RX5 207 RX5 yX5_isOne wsX5_isOne) := goodIn_app (goodIn_of _ (by decide +kernel)) ggX5_does_X5_isOne
set_option maxRecDepth 20000 in
theorem ggX5_does_X5_in : GoodIn wsX5_does wsX5_in := goodIn_r _ [9] (by decide +kernel) (by decide +kernel)
set_option maxRecDepth 20000 in
theorem gX5_does_X5_in : GoodIn wsX5_does (va_wsS RX5 60 yX5_in wsX5_in) := goodIn_app (goodIn_of _ (by decide +kernel)) ggX5_does_X5_in
set_option maxRecDepth 20000 in
theorem ggX5_does_X5_back : GoodIn wsX5_does wsX5_back := goodIn_r _ [13, 14, 15, 16, 4, 17, 6, 45, 46, 47, 48, 49, 50, 51, 52, 53, 54, 55, 56, 57, 58, 59, 60, 61, 62, 63, 64, 65, 66, 67, 68, 69, 70, 71, 72, 73, 74] (by decide +kernel) (by decide +kernel)
set_option maxRecDepth 20000 in
theorem gX5_does_X5_back : GoodIn wsX5_does (wsV RX5 225 RX5 yX5_back wsX5_back) := goodIn_app (goodIn_of _ (by decide +kernel)) ggX5_does_X5_back
set_option maxRecDepth 20000 in
theorem ggX5_does_X5_isGone : GoodIn wsX5_does wsX5_isGone := goodIn_r _ [21, 14, 15, 16, 4, 17, 6, 45, 46, 47, 48, 49, 50, 51, 52, 53, 54, 55, 56, 57, 58, 59, 60, 61, 62, 63, 64, 65, 66, 67, 68, 69, 70, 71, 72, 73, 74] (by decide +kernel) (by decide +kernel)
set_option maxRecDepth 20000 in
theorem gX5_does_X5_isGone : GoodIn wsX5_does (wsV RX5 228 RX5 yX5_isGone wsX5_isGone) := goodIn_app (goodIn_of _ (by decide +kernel)) ggX5_does_X5_isGone
set_option maxRecDepth 20000 in
theorem ggX5_does_X5_grows : GoodIn wsX5_does wsX5_grows := goodIn_r _ [25, 6, 14, 15, 16, 4, 17, 26, 27, 28, 29, 30, 31, 32, 33, 34, 35, 36, 37, 38, 39, 40, 45, 46, 47, 48, 49, 50, 51, 52, 53, 54, 55, 56, 57, 58, 59, 60, 61, 62, 63, 64, 65, 66, 67, 68, 69, 70, 71, 72, 73, 74] (by decide +kernel) (by decide +kernel)
set_option maxRecDepth 20000 in
theorem gX5_does_X5_grows : GoodIn wsX5_does (wsV RX5 231 RX5 yX5_grows wsX5_grows) := goodIn_app (goodIn_of _ (by decide +kernel)) ggX5_does_X5_grows
set_option maxRecDepth 20000 in
theorem ggX5_does_X5_holds : GoodIn wsX5_does wsX5_holds := goodIn_r _ [44, 6, 14, 15, 16, 4, 17, 30, 31, 32, 33, 34, 35, 36, 37, 38, 39, 40, 45, 46, 47, 48, 49, 50, 51, 52, 53, 54, 55, 56, 57, 58, 59, 60, 61, 62, 63, 64, 65, 66, 67, 68, 69, 70, 71, 72, 73, 74] (by decide +kernel) (by decide +kernel)
set_option maxRecDepth 20000 in
theorem gX5_does_X5_holds : GoodIn wsX5_does (wsV RX5 234 RX5 yX5_holds wsX5_holds) := goodIn_app (goodIn_of _ (by decide +kernel)) ggX5_does_X5_holds
theorem dX5_does_0 : decode cX5_does 0 = .ok (.aload_n 0, 1) := by decide +kernel
theorem dX5_does_1 : decode cX5_does 1 = .ok (.iload_n 1, 1) := by decide +kernel
theorem dX5_does_2 : decode cX5_does 2 = .ok (.invokevirtual 207, 3) := by decide +kernel
theorem dX5_does_5 : decode cX5_does 5 = .ok (.ifCond .eq 12, 3) := by decide +kernel
theorem dX5_does_8 : decode cX5_does 8 = .ok (.iload_n 2, 1) := by decide +kernel
theorem dX5_does_9 : decode cX5_does 9 = .ok (.iconst 0, 1) := by decide +kernel
theorem dX5_does_10 : decode cX5_does 10 = .ok (.iconst 2, 1) := by decide +kernel
theorem dX5_does_11 : decode cX5_does 11 = .ok (.invokestatic 60, 3) := by decide +kernel
theorem dX5_does_14 : decode cX5_does 14 = .ok (.ifCond .ne 5, 3) := by decide +kernel
theorem dX5_does_17 : decode cX5_does 17 = .ok (.iconst (-1), 1) := by decide +kernel
theorem dX5_does_18 : decode cX5_does 18 = .ok (.ireturn, 1) := by decide +kernel
theorem dX5_does_19 : decode cX5_does 19 = .ok (.iload_n 2, 1) := by decide +kernel
theorem dX5_does_20 : decode cX5_does 20 = .ok (.iconst 2, 1) := by decide +kernel
theorem dX5_does_21 : decode cX5_does 21 = .ok (.if_icmp .ne 13, 3) := by decide +kernel
theorem dX5_does_24 : decode cX5_does 24 = .ok (.sipush 1000, 3) := by decide +kernel
theorem dX5_does_27 : decode cX5_does 27 = .ok (.aload_n 0, 1) := by decide +kernel
theorem dX5_does_28 : decode cX5_does 28 = .ok (.iload_n 1, 1) := by decide +kernel
theorem dX5_does_29 : decode cX5_does 29 = .ok (.invokevirtual 225, 3) := by decide +kernel
theorem dX5_does_32 : decode cX5_does 32 = .ok (.iadd, 1) := by decide +kernel
theorem dX5_does_33 : decode cX5_does 33 = .ok (.ireturn, 1) := by decide +kernel
theorem dX5_does_34 : decode cX5_does 34 = .ok (.aload_n 0, 1) := by decide +kernel
theorem dX5_does_35 : decode cX5_does 35 = .ok (.iload_n 1, 1) := by decide +kernel
theorem dX5_does_36 : decode cX5_does 36 = .ok (.invokevirtual 228, 3) := by decide +kernel
theorem dX5_does_39 : decode cX5_does 39 = .ok (.ifCond .eq 8, 3) := by decide +kernel
theorem dX5_does_42 : decode cX5_does 42 = .ok (.bipush (-3), 2) := by decide +kernel
theorem dX5_does_44 : decode cX5_does 44 = .ok (.goto 24, 3) := by decide +kernel
theorem dX5_does_47 : decode cX5_does 47 = .ok (.sipush 1000, 3) := by decide +kernel
theorem dX5_does_50 : decode cX5_does 50 = .ok (.iload_n 2, 1) := by decide +kernel
theorem dX5_does_51 : decode cX5_does 51 = .ok (.ifCond .ne 11, 3) := by decide +kernel
theorem dX5_does_54 : decode cX5_does 54 = .ok (.aload_n 0, 1) := by decide +kernel
theorem dX5_does_55 : decode cX5_does 55 = .ok (.iload_n 1, 1) := by decide +kernel
theorem dX5_does_56 : decode cX5_does 56 = .ok (.invokevirtual 231, 3) := by decide +kernel
theorem dX5_does_59 : decode cX5_does 59 = .ok (.goto 8, 3) := by decide +kernel
theorem dX5_does_62 : decode cX5_does 62 = .ok (.aload_n 0, 1) := by decide +kernel
theorem dX5_does_63 : decode cX5_does 63 = .ok (.iload_n 1, 1) := by decide +kernel
theorem dX5_does_64 : decode cX5_does 64 = .ok (.invokevirtual 234, 3) := by decide +kernel
theorem dX5_does_67 : decode cX5_does 67 = .ok (.iadd, 1) := by decide +kernel
theorem dX5_does_68 : decode cX5_does 68 = .ok (.ireturn, 1) := by decide +kernel
set_option maxRecDepth 20000 in
theorem ggX5_mind_X5_isOne : GoodIn wsX5_mind wsX5_isOne := goodIn_r _ [5, 6, 7, 8, 4, 9, 21, 22, 23, 24, 25, 26, 27, 28, 29, 30, 31, 32, 33, 34, 35, 36, 37, 38, 39, 40, 41, 42, 43, 44, 45, 46, 47, 48, 49, 50] (by decide +kernel) (by decide +kernel)
set_option maxRecDepth 20000 in
theorem gX5_mind_X5_isOne : GoodIn wsX5_mind (wsV RX5 207 RX5 yX5_isOne wsX5_isOne) := goodIn_app (goodIn_of _ (by decide +kernel)) ggX5_mind_X5_isOne
set_option maxRecDepth 20000 in
theorem ggX5_mind_X5_isKind : GoodIn wsX5_mind wsX5_isKind := goodIn_r _ [12, 7, 8, 4, 9] (by decide +kernel) (by decide +kernel)
set_option maxRecDepth 20000 in
theorem gX5_mind_X5_isKind : GoodIn wsX5_mind (va_wsS RX5 196 yX5_isKind wsX5_isKind) := goodIn_app (goodIn_of _ (by decide +kernel)) ggX5_mind_X5_isKind
set_option maxRecDepth 20000 in
theorem ggX5_mind_X5_sets : GoodIn wsX5_mind wsX5_sets := goodIn_r _ [16, 6, 21, 22, 23, 24, 25, 26, 27, 28, 29, 30, 31, 32, 33, 34, 35, 36, 37, 38, 39, 40, 41, 42, 43, 44, 45, 46, 47, 48, 49, 50] (by decide +kernel) (by decide +kernel)
set_option maxRecDepth 20000 in
theorem gX5_mind_X5_sets : GoodIn wsX5_mind (wsV RX5 203 RX5 yX5_sets wsX5_sets) := goodIn_app (goodIn_of _ (by decide +kernel)) ggX5_mind_X5_sets
set_option maxRecDepth 20000 in
theorem ggX5_mind_X5_becomes : GoodIn wsX5_mind wsX5_becomes := goodIn_r _ [20, 6, 21, 22, 23, 24, 25, 26, 27, 28, 29, 30, 31, 32, 33, 34, 35, 36, 37, 38, 39, 40, 41, 42, 43, 44, 45, 46, 47, 48, 49, 50] (by decide +kernel) (by decide +kernel)
set_option maxRecDepth 20000 in
theorem gX5_mind_X5_becomes : GoodIn wsX5_mind (wsV RX5 193 RX5 yX5_becomes wsX5_becomes) := goodIn_app (goodIn_of _ (by decide +kernel)) ggX5_mind_X5_becomes
theorem dX5_mind_0 : decode cX5_mind 0 = .ok (.aload_n 0, 1) := by decide +kernel
theorem dX5_mind_1 : decode cX5_mind 1 = .ok (.iload_n 1, 1) := by decide +kernel
theorem dX5_mind_2 : decode cX5_mind 2 = .ok (.invokevirtual 207, 3) := by decide +kernel
theorem dX5_mind_5 : decode cX5_mind 5 = .ok (.ifCond .eq 11, 3) := by decide +kernel
theorem dX5_mind_8 : decode cX5_mind 8 = .ok (.iload_n 2, 1) := by decide +kernel
theorem dX5_mind_9 : decode cX5_mind 9 = .ok (.iload_n 3, 1) := by decide +kernel
theorem dX5_mind_10 : decode cX5_mind 10 = .ok (.invokestatic 196, 3) := by decide +kernel
theorem dX5_mind_13 : decode cX5_mind 13 = .ok (.ifCond .ne 5, 3) := by decide +kernel
theorem dX5_mind_16 : decode cX5_mind 16 = .ok (.iconst (-1), 1) := by decide +kernel
theorem dX5_mind_17 : decode cX5_mind 17 = .ok (.ireturn, 1) := by decide +kernel
theorem dX5_mind_18 : decode cX5_mind 18 = .ok (.aload_n 0, 1) := by decide +kernel
theorem dX5_mind_19 : decode cX5_mind 19 = .ok (.iload_n 1, 1) := by decide +kernel
theorem dX5_mind_20 : decode cX5_mind 20 = .ok (.iconst 1, 1) := by decide +kernel
theorem dX5_mind_21 : decode cX5_mind 21 = .ok (.iload_n 3, 1) := by decide +kernel
theorem dX5_mind_22 : decode cX5_mind 22 = .ok (.invokevirtual 203, 3) := by decide +kernel
theorem dX5_mind_25 : decode cX5_mind 25 = .ok (.aload_n 0, 1) := by decide +kernel
theorem dX5_mind_26 : decode cX5_mind 26 = .ok (.bipush 28, 2) := by decide +kernel
theorem dX5_mind_28 : decode cX5_mind 28 = .ok (.iconst 5, 1) := by decide +kernel
theorem dX5_mind_29 : decode cX5_mind 29 = .ok (.iload_n 1, 1) := by decide +kernel
theorem dX5_mind_30 : decode cX5_mind 30 = .ok (.imul, 1) := by decide +kernel
theorem dX5_mind_31 : decode cX5_mind 31 = .ok (.iadd, 1) := by decide +kernel
theorem dX5_mind_32 : decode cX5_mind 32 = .ok (.iload_n 2, 1) := by decide +kernel
theorem dX5_mind_33 : decode cX5_mind 33 = .ok (.invokevirtual 193, 3) := by decide +kernel
theorem dX5_mind_36 : decode cX5_mind 36 = .ok (.ireturn, 1) := by decide +kernel
set_option maxRecDepth 20000 in
theorem ggX5_paint_X5_isOne : GoodIn wsX5_paint wsX5_isOne := goodIn_r _ [5, 6, 7, 8, 4, 9, 14, 15, 16, 17, 18, 19, 20, 21, 22, 23, 24, 25, 26, 27, 28, 29, 30, 31, 32, 33, 34, 35, 36, 37, 38, 39, 40, 41, 42, 43] (by decide +kernel) (by decide +kernel)
set_option maxRecDepth 20000 in
theorem gX5_paint_X5_isOne : GoodIn wsX5_paint (wsV RX5 207 RX5 yX5_isOne wsX5_isOne) := goodIn_app (goodIn_of _ (by decide +kernel)) ggX5_paint_X5_isOne
set_option maxRecDepth 20000 in
theorem ggX5_paint_X5_in : GoodIn wsX5_paint wsX5_in := goodIn_r _ [9] (by decide +kernel) (by decide +kernel)
set_option maxRecDepth 20000 in
theorem gX5_paint_X5_in : GoodIn wsX5_paint (va_wsS RX5 60 yX5_in wsX5_in) := goodIn_app (goodIn_of _ (by decide +kernel)) ggX5_paint_X5_in
set_option maxRecDepth 20000 in
theorem ggX5_paint_X5_becomes : GoodIn wsX5_paint wsX5_becomes := goodIn_r _ [13, 6, 14, 15, 16, 17, 18, 19, 20, 21, 22, 23, 24, 25, 26, 27, 28, 29, 30, 31, 32, 33, 34, 35, 36, 37, 38, 39, 40, 41, 42, 43] (by decide +kernel) (by decide +kernel)
set_option maxRecDepth 20000 in
theorem gX5_paint_X5_becomes : GoodIn wsX5_paint (wsV RX5 193 RX5 yX5_becomes wsX5_becomes) := goodIn_app (goodIn_of _ (by decide +kernel)) ggX5_paint_X5_becomes
theorem dX5_paint_0 : decode cX5_paint 0 = .ok (.aload_n 0, 1) := by decide +kernel
theorem dX5_paint_1 : decode cX5_paint 1 = .ok (.iload_n 1, 1) := by decide +kernel
theorem dX5_paint_2 : decode cX5_paint 2 = .ok (.invokevirtual 207, 3) := by decide +kernel
theorem dX5_paint_5 : decode cX5_paint 5 = .ok (.ifCond .eq 29, 3) := by decide +kernel
theorem dX5_paint_8 : decode cX5_paint 8 = .ok (.iload_n 2, 1) := by decide +kernel
theorem dX5_paint_9 : decode cX5_paint 9 = .ok (.iconst 0, 1) := by decide +kernel
theorem dX5_paint_10 : decode cX5_paint 10 = .ok (.bipush 99, 2) := by decide +kernel
theorem dX5_paint_12 : decode cX5_paint 12 = .ok (.invokestatic 60, 3) := by decide +kernel
theorem dX5_paint_15 : decode cX5_paint 15 = .ok (.ifCond .eq 19, 3) := by decide +kernel
theorem dX5_paint_18 : decode cX5_paint 18 = .ok (.aload_n 0, 1) := by decide +kernel
theorem dX5_paint_19 : decode cX5_paint 19 = .ok (.bipush 28, 2) := by decide +kernel
theorem dX5_paint_21 : decode cX5_paint 21 = .ok (.iconst 5, 1) := by decide +kernel
theorem dX5_paint_22 : decode cX5_paint 22 = .ok (.iload_n 1, 1) := by decide +kernel
theorem dX5_paint_23 : decode cX5_paint 23 = .ok (.imul, 1) := by decide +kernel
theorem dX5_paint_24 : decode cX5_paint 24 = .ok (.iadd, 1) := by decide +kernel
theorem dX5_paint_25 : decode cX5_paint 25 = .ok (.iconst 2, 1) := by decide +kernel
theorem dX5_paint_26 : decode cX5_paint 26 = .ok (.iadd, 1) := by decide +kernel
theorem dX5_paint_27 : decode cX5_paint 27 = .ok (.iload_n 2, 1) := by decide +kernel
theorem dX5_paint_28 : decode cX5_paint 28 = .ok (.invokevirtual 193, 3) := by decide +kernel
theorem dX5_paint_31 : decode cX5_paint 31 = .ok (.goto 4, 3) := by decide +kernel
theorem dX5_paint_34 : decode cX5_paint 34 = .ok (.iconst (-1), 1) := by decide +kernel
theorem dX5_paint_35 : decode cX5_paint 35 = .ok (.ireturn, 1) := by decide +kernel
set_option maxRecDepth 20000 in
theorem ggX5_move_X5_isOne : GoodIn wsX5_move wsX5_isOne := goodIn_r _ [5, 6, 7, 8, 4, 9, 18, 19, 20, 21, 22, 23, 24, 25, 26, 27, 28, 29, 30, 31, 32, 33, 34, 35, 36, 37, 38, 39, 40, 41, 42, 43, 44, 45, 46, 47] (by decide +kernel) (by decide +kernel)
set_option maxRecDepth 20000 in
theorem gX5_move_X5_isOne : GoodIn wsX5_move (wsV RX5 207 RX5 yX5_isOne wsX5_isOne) := goodIn_app (goodIn_of _ (by decide +kernel)) ggX5_move_X5_isOne
set_option maxRecDepth 20000 in
theorem ggX5_move_X5_in : GoodIn wsX5_move wsX5_in := goodIn_r _ [9] (by decide +kernel) (by decide +kernel)
set_option maxRecDepth 20000 in
theorem gX5_move_X5_in : GoodIn wsX5_move (va_wsS RX5 60 yX5_in wsX5_in) := goodIn_app (goodIn_of _ (by decide +kernel)) ggX5_move_X5_in
set_option maxRecDepth 20000 in
theorem ggX5_move_X5_sets : GoodIn wsX5_move wsX5_sets := goodIn_r _ [13, 6, 18, 19, 20, 21, 22, 23, 24, 25, 26, 27, 28, 29, 30, 31, 32, 33, 34, 35, 36, 37, 38, 39, 40, 41, 42, 43, 44, 45, 46, 47] (by decide +kernel) (by decide +kernel)
set_option maxRecDepth 20000 in
theorem gX5_move_X5_sets : GoodIn wsX5_move (wsV RX5 203 RX5 yX5_sets wsX5_sets) := goodIn_app (goodIn_of _ (by decide +kernel)) ggX5_move_X5_sets
set_option maxRecDepth 20000 in
theorem ggX5_move_X5_becomes : GoodIn wsX5_move wsX5_becomes := goodIn_r _ [17, 6, 18, 19, 20, 21, 22, 23, 24, 25, 26, 27, 28, 29, 30, 31, 32, 33, 34, 35, 36, 37, 38, 39, 40, 41, 42, 43, 44, 45, 46, 47] (by decide +kernel) (by decide +kernel)
set_option maxRecDepth 20000 in
theorem gX5_move_X5_becomes : GoodIn wsX5_move (wsV RX5 193 RX5 yX5_becomes wsX5_becomes) := goodIn_app (goodIn_of _ (by decide +kernel)) ggX5_move_X5_becomes
theorem dX5_move_0 : decode cX5_move 0 = .ok (.aload_n 0, 1) := by decide +kernel
theorem dX5_move_1 : decode cX5_move 1 = .ok (.iload_n 1, 1) := by decide +kernel
theorem dX5_move_2 : decode cX5_move 2 = .ok (.invokevirtual 207, 3) := by decide +kernel
theorem dX5_move_5 : decode cX5_move 5 = .ok (.ifCond .eq 13, 3) := by decide +kernel
theorem dX5_move_8 : decode cX5_move 8 = .ok (.iload_n 2, 1) := by decide +kernel
theorem dX5_move_9 : decode cX5_move 9 = .ok (.iconst 0, 1) := by decide +kernel
theorem dX5_move_10 : decode cX5_move 10 = .ok (.bipush 10, 2) := by decide +kernel
theorem dX5_move_12 : decode cX5_move 12 = .ok (.invokestatic 60, 3) := by decide +kernel
theorem dX5_move_15 : decode cX5_move 15 = .ok (.ifCond .ne 5, 3) := by decide +kernel
theorem dX5_move_18 : decode cX5_move 18 = .ok (.iconst (-1), 1) := by decide +kernel
theorem dX5_move_19 : decode cX5_move 19 = .ok (.ireturn, 1) := by decide +kernel
theorem dX5_move_20 : decode cX5_move 20 = .ok (.iload_n 2, 1) := by decide +kernel
theorem dX5_move_21 : decode cX5_move 21 = .ok (.bipush 10, 2) := by decide +kernel
theorem dX5_move_23 : decode cX5_move 23 = .ok (.if_icmp .ge 10, 3) := by decide +kernel
theorem dX5_move_26 : decode cX5_move 26 = .ok (.aload_n 0, 1) := by decide +kernel
theorem dX5_move_27 : decode cX5_move 27 = .ok (.iload_n 1, 1) := by decide +kernel
theorem dX5_move_28 : decode cX5_move 28 = .ok (.iconst 4, 1) := by decide +kernel
theorem dX5_move_29 : decode cX5_move 29 = .ok (.iconst 0, 1) := by decide +kernel
theorem dX5_move_30 : decode cX5_move 30 = .ok (.invokevirtual 203, 3) := by decide +kernel
theorem dX5_move_33 : decode cX5_move 33 = .ok (.aload_n 0, 1) := by decide +kernel
theorem dX5_move_34 : decode cX5_move 34 = .ok (.bipush 28, 2) := by decide +kernel
theorem dX5_move_36 : decode cX5_move 36 = .ok (.iconst 5, 1) := by decide +kernel
theorem dX5_move_37 : decode cX5_move 37 = .ok (.iload_n 1, 1) := by decide +kernel
theorem dX5_move_38 : decode cX5_move 38 = .ok (.imul, 1) := by decide +kernel
theorem dX5_move_39 : decode cX5_move 39 = .ok (.iadd, 1) := by decide +kernel
theorem dX5_move_40 : decode cX5_move 40 = .ok (.iconst 3, 1) := by decide +kernel
theorem dX5_move_41 : decode cX5_move 41 = .ok (.iadd, 1) := by decide +kernel
theorem dX5_move_42 : decode cX5_move 42 = .ok (.iload_n 2, 1) := by decide +kernel
theorem dX5_move_43 : decode cX5_move 43 = .ok (.invokevirtual 193, 3) := by decide +kernel
theorem dX5_move_46 : decode cX5_move 46 = .ok (.ireturn, 1) := by decide +kernel
set_option maxRecDepth 20000 in
theorem ggX5_wall_X5_isWall : GoodIn wsX5_wall wsX5_isWall := goodIn_r _ [4, 5, 6, 3, 7] (by decide +kernel) (by decide +kernel)
set_option maxRecDepth 20000 in
theorem gX5_wall_X5_isWall : GoodIn wsX5_wall (va_wsS RX5 200 yX5_isWall wsX5_isWall) := goodIn_app (goodIn_of _ (by decide +kernel)) ggX5_wall_X5_isWall
set_option maxRecDepth 20000 in
theorem ggX5_wall_X5_in : GoodIn wsX5_wall wsX5_in := goodIn_r _ [7] (by decide +kernel) (by decide +kernel)
set_option maxRecDepth 20000 in
theorem gX5_wall_X5_in : GoodIn wsX5_wall (va_wsS RX5 60 yX5_in wsX5_in) := goodIn_app (goodIn_of _ (by decide +kernel)) ggX5_wall_X5_in
set_option maxRecDepth 20000 in
theorem ggX5_wall_X5_becomes : GoodIn wsX5_wall wsX5_becomes := goodIn_r _ [11, 12, 13, 14, 15, 16, 17, 18, 19, 20, 21, 22, 23, 24, 25, 26, 27, 28, 29, 30, 31, 32, 33, 34, 35, 36, 37, 38, 39, 40, 41, 42] (by decide +kernel) (by decide +kernel)
set_option maxRecDepth 20000 in
theorem gX5_wall_X5_becomes : GoodIn wsX5_wall (wsV RX5 193 RX5 yX5_becomes wsX5_becomes) := goodIn_app (goodIn_of _ (by decide +kernel)) ggX5_wall_X5_becomes
theorem dX5_wall_0 : decode cX5_wall 0 = .ok (.iload_n 1, 1) := by decide +kernel
theorem dX5_wall_1 : decode cX5_wall 1 = .ok (.invokestatic 200, 3) := by decide +kernel
theorem dX5_wall_4 : decode cX5_wall 4 = .ok (.ifCond .eq 46, 3) := by decide +kernel
theorem dX5_wall_7 : decode cX5_wall 7 = .ok (.iload_n 2, 1) := by decide +kernel
theorem dX5_wall_8 : decode cX5_wall 8 = .ok (.iconst 0, 1) := by decide +kernel
theorem dX5_wall_9 : decode cX5_wall 9 = .ok (.iconst 1, 1) := by decide +kernel
theorem dX5_wall_10 : decode cX5_wall 10 = .ok (.invokestatic 60, 3) := by decide +kernel
theorem dX5_wall_13 : decode cX5_wall 13 = .ok (.ifCond .eq 37, 3) := by decide +kernel
theorem dX5_wall_16 : decode cX5_wall 16 = .ok (.iload_n 3, 1) := by decide +kernel
theorem dX5_wall_17 : decode cX5_wall 17 = .ok (.iconst 0, 1) := by decide +kernel
theorem dX5_wall_18 : decode cX5_wall 18 = .ok (.iload_n 2, 1) := by decide +kernel
theorem dX5_wall_19 : decode cX5_wall 19 = .ok (.ifCond .ne 7, 3) := by decide +kernel
theorem dX5_wall_22 : decode cX5_wall 22 = .ok (.iconst 2, 1) := by decide +kernel
theorem dX5_wall_23 : decode cX5_wall 23 = .ok (.goto 5, 3) := by decide +kernel
theorem dX5_wall_26 : decode cX5_wall 26 = .ok (.bipush 9, 2) := by decide +kernel
theorem dX5_wall_28 : decode cX5_wall 28 = .ok (.invokestatic 60, 3) := by decide +kernel
theorem dX5_wall_31 : decode cX5_wall 31 = .ok (.ifCond .eq 19, 3) := by decide +kernel
theorem dX5_wall_34 : decode cX5_wall 34 = .ok (.aload_n 0, 1) := by decide +kernel
theorem dX5_wall_35 : decode cX5_wall 35 = .ok (.bipush 8, 2) := by decide +kernel
theorem dX5_wall_37 : decode cX5_wall 37 = .ok (.iconst 2, 1) := by decide +kernel
theorem dX5_wall_38 : decode cX5_wall 38 = .ok (.iload_n 1, 1) := by decide +kernel
theorem dX5_wall_39 : decode cX5_wall 39 = .ok (.imul, 1) := by decide +kernel
theorem dX5_wall_40 : decode cX5_wall 40 = .ok (.iadd, 1) := by decide +kernel
theorem dX5_wall_41 : decode cX5_wall 41 = .ok (.iload_n 2, 1) := by decide +kernel
theorem dX5_wall_42 : decode cX5_wall 42 = .ok (.iadd, 1) := by decide +kernel
theorem dX5_wall_43 : decode cX5_wall 43 = .ok (.iload_n 3, 1) := by decide +kernel
theorem dX5_wall_44 : decode cX5_wall 44 = .ok (.invokevirtual 193, 3) := by decide +kernel
theorem dX5_wall_47 : decode cX5_wall 47 = .ok (.goto 4, 3) := by decide +kernel
theorem dX5_wall_50 : decode cX5_wall 50 = .ok (.iconst (-1), 1) := by decide +kernel
theorem dX5_wall_51 : decode cX5_wall 51 = .ok (.ireturn, 1) := by decide +kernel
set_option maxRecDepth 20000 in
theorem ggX5_looks_X5_its : GoodIn wsX5_looks wsX5_its := goodIn_r _ [6, 1, 7, 8, 9, 10, 11, 12, 13, 14, 15, 16, 17, 18, 19, 20, 21, 22, 23, 24, 25, 26, 27, 28, 29, 30, 31, 32, 33, 34, 35, 36] (by decide +kernel) (by decide +kernel)
set_option maxRecDepth 20000 in
theorem gX5_looks_X5_its : GoodIn wsX5_looks (wsV RX5 210 RX5 yX5_its wsX5_its) := goodIn_app (goodIn_of _ (by decide +kernel)) ggX5_looks_X5_its
theorem dX5_looks_0 : decode cX5_looks 0 = .ok (.iconst 0, 1) := by decide +kernel
theorem dX5_looks_1 : decode cX5_looks 1 = .ok (.istore_n 2, 1) := by decide +kernel
theorem dX5_looks_2 : decode cX5_looks 2 = .ok (.iconst 0, 1) := by decide +kernel
theorem dX5_looks_3 : decode cX5_looks 3 = .ok (.istore_n 3, 1) := by decide +kernel
theorem dX5_looks_4 : decode cX5_looks 4 = .ok (.iload_n 3, 1) := by decide +kernel
theorem dX5_looks_5 : decode cX5_looks 5 = .ok (.aload_n 0, 1) := by decide +kernel
theorem dX5_looks_6 : decode cX5_looks 6 = .ok (.getfield 7, 3) := by decide +kernel
theorem dX5_looks_9 : decode cX5_looks 9 = .ok (.bipush 6, 2) := by decide +kernel
theorem dX5_looks_11 : decode cX5_looks 11 = .ok (.iaload, 1) := by decide +kernel
theorem dX5_looks_12 : decode cX5_looks 12 = .ok (.if_icmp .ge 32, 3) := by decide +kernel
theorem dX5_looks_15 : decode cX5_looks 15 = .ok (.iload_n 2, 1) := by decide +kernel
theorem dX5_looks_16 : decode cX5_looks 16 = .ok (.aload_n 0, 1) := by decide +kernel
theorem dX5_looks_17 : decode cX5_looks 17 = .ok (.iload_n 3, 1) := by decide +kernel
theorem dX5_looks_18 : decode cX5_looks 18 = .ok (.iconst 3, 1) := by decide +kernel
theorem dX5_looks_19 : decode cX5_looks 19 = .ok (.invokevirtual 210, 3) := by decide +kernel
theorem dX5_looks_22 : decode cX5_looks 22 = .ok (.iload_n 1, 1) := by decide +kernel
theorem dX5_looks_23 : decode cX5_looks 23 = .ok (.if_icmp .ne 12, 3) := by decide +kernel
theorem dX5_looks_26 : decode cX5_looks 26 = .ok (.aload_n 0, 1) := by decide +kernel
theorem dX5_looks_27 : decode cX5_looks 27 = .ok (.iload_n 3, 1) := by decide +kernel
theorem dX5_looks_28 : decode cX5_looks 28 = .ok (.iconst 2, 1) := by decide +kernel
theorem dX5_looks_29 : decode cX5_looks 29 = .ok (.invokevirtual 210, 3) := by decide +kernel
theorem dX5_looks_32 : decode cX5_looks 32 = .ok (.goto 4, 3) := by decide +kernel
theorem dX5_looks_35 : decode cX5_looks 35 = .ok (.iconst 0, 1) := by decide +kernel
theorem dX5_looks_36 : decode cX5_looks 36 = .ok (.iadd, 1) := by decide +kernel
theorem dX5_looks_37 : decode cX5_looks 37 = .ok (.istore_n 2, 1) := by decide +kernel
theorem dX5_looks_38 : decode cX5_looks 38 = .ok (.iinc 3 1, 3) := by decide +kernel
theorem dX5_looks_41 : decode cX5_looks 41 = .ok (.goto (-37), 3) := by decide +kernel
theorem dX5_looks_44 : decode cX5_looks 44 = .ok (.iload_n 2, 1) := by decide +kernel
theorem dX5_looks_45 : decode cX5_looks 45 = .ok (.aload_n 0, 1) := by decide +kernel
theorem dX5_looks_46 : decode cX5_looks 46 = .ok (.getfield 7, 3) := by decide +kernel
theorem dX5_looks_49 : decode cX5_looks 49 = .ok (.bipush 8, 2) := by decide +kernel
theorem dX5_looks_51 : decode cX5_looks 51 = .ok (.iconst 2, 1) := by decide +kernel
theorem dX5_looks_52 : decode cX5_looks 52 = .ok (.iload_n 1, 1) := by decide +kernel
theorem dX5_looks_53 : decode cX5_looks 53 = .ok (.imul, 1) := by decide +kernel
theorem dX5_looks_54 : decode cX5_looks 54 = .ok (.iadd, 1) := by decide +kernel
theorem dX5_looks_55 : decode cX5_looks 55 = .ok (.iconst 1, 1) := by decide +kernel
theorem dX5_looks_56 : decode cX5_looks 56 = .ok (.iadd, 1) := by decide +kernel
theorem dX5_looks_57 : decode cX5_looks 57 = .ok (.iaload, 1) := by decide +kernel
theorem dX5_looks_58 : decode cX5_looks 58 = .ok (.imul, 1) := by decide +kernel
theorem dX5_looks_59 : decode cX5_looks 59 = .ok (.ireturn, 1) := by decide +kernel
set_option maxRecDepth 20000 in
theorem ggX5_looksOfAll_X5_looks : GoodIn wsX5_looksOfAll wsX5_looks := goodIn_r _ [5, 6, 7, 8, 9, 4, 10, 11, 12, 13, 14, 15, 16, 17, 18, 19, 20, 21, 22, 23, 24, 25, 26, 27, 28, 29, 30, 31, 32, 33, 34, 35, 36, 37, 38, 39, 40] (by decide +kernel) (by decide +kernel)
set_option maxRecDepth 20000 in
theorem gX5_looksOfAll_X5_looks : GoodIn wsX5_looksOfAll (wsV RX5 236 RX5 yX5_looks wsX5_looks) := goodIn_app (goodIn_of _ (by decide +kernel)) ggX5_looksOfAll_X5_looks
theorem dX5_looksOfAll_0 : decode cX5_looksOfAll 0 = .ok (.iconst 0, 1) := by decide +kernel
theorem dX5_looksOfAll_1 : decode cX5_looksOfAll 1 = .ok (.istore_n 1, 1) := by decide +kernel
theorem dX5_looksOfAll_2 : decode cX5_looksOfAll 2 = .ok (.iconst 0, 1) := by decide +kernel
theorem dX5_looksOfAll_3 : decode cX5_looksOfAll 3 = .ok (.istore_n 2, 1) := by decide +kernel
theorem dX5_looksOfAll_4 : decode cX5_looksOfAll 4 = .ok (.iload_n 2, 1) := by decide +kernel
theorem dX5_looksOfAll_5 : decode cX5_looksOfAll 5 = .ok (.bipush 10, 2) := by decide +kernel
theorem dX5_looksOfAll_7 : decode cX5_looksOfAll 7 = .ok (.if_icmp .ge 17, 3) := by decide +kernel
theorem dX5_looksOfAll_10 : decode cX5_looksOfAll 10 = .ok (.iload_n 1, 1) := by decide +kernel
theorem dX5_looksOfAll_11 : decode cX5_looksOfAll 11 = .ok (.aload_n 0, 1) := by decide +kernel
theorem dX5_looksOfAll_12 : decode cX5_looksOfAll 12 = .ok (.iload_n 2, 1) := by decide +kernel
theorem dX5_looksOfAll_13 : decode cX5_looksOfAll 13 = .ok (.invokevirtual 236, 3) := by decide +kernel
theorem dX5_looksOfAll_16 : decode cX5_looksOfAll 16 = .ok (.iadd, 1) := by decide +kernel
theorem dX5_looksOfAll_17 : decode cX5_looksOfAll 17 = .ok (.istore_n 1, 1) := by decide +kernel
theorem dX5_looksOfAll_18 : decode cX5_looksOfAll 18 = .ok (.iinc 2 1, 3) := by decide +kernel
theorem dX5_looksOfAll_21 : decode cX5_looksOfAll 21 = .ok (.goto (-17), 3) := by decide +kernel
theorem dX5_looksOfAll_24 : decode cX5_looksOfAll 24 = .ok (.iload_n 1, 1) := by decide +kernel
theorem dX5_looksOfAll_25 : decode cX5_looksOfAll 25 = .ok (.ireturn, 1) := by decide +kernel
set_option maxRecDepth 20000 in
theorem ggX5_wallOf_X5_isWall : GoodIn wsX5_wallOf wsX5_isWall := goodIn_r _ [5, 6, 7, 4, 8] (by decide +kernel) (by decide +kernel)
set_option maxRecDepth 20000 in
theorem gX5_wallOf_X5_isWall : GoodIn wsX5_wallOf (va_wsS RX5 200 yX5_isWall wsX5_isWall) := goodIn_app (goodIn_of _ (by decide +kernel)) ggX5_wallOf_X5_isWall
set_option maxRecDepth 20000 in
theorem ggX5_wallOf_X5_in : GoodIn wsX5_wallOf wsX5_in := goodIn_r _ [8] (by decide +kernel) (by decide +kernel)
set_option maxRecDepth 20000 in
theorem gX5_wallOf_X5_in : GoodIn wsX5_wallOf (va_wsS RX5 60 yX5_in wsX5_in) := goodIn_app (goodIn_of _ (by decide +kernel)) ggX5_wallOf_X5_in
set_option maxRecDepth 20000 in
theorem ggX5_wallOf_X5_looks : GoodIn wsX5_wallOf wsX5_looks := goodIn_r _ [12, 1, 13, 14, 15, 4, 16, 21, 22, 23, 24, 25, 26, 27, 28, 29, 30, 31, 32, 33, 34, 35, 36, 37, 38, 39, 40, 41, 42, 43, 44, 45, 46, 47, 48, 49, 50] (by decide +kernel) (by decide +kernel)
set_option maxRecDepth 20000 in
theorem gX5_wallOf_X5_looks : GoodIn wsX5_wallOf (wsV RX5 236 RX5 yX5_looks wsX5_looks) := goodIn_app (goodIn_of _ (by decide +kernel)) ggX5_wallOf_X5_looks
set_option maxRecDepth 20000 in
theorem ggX5_wallOf_X5_onWall : GoodIn wsX5_wallOf wsX5_onWall := goodIn_r _ [20, 1, 13, 14, 15, 4, 16, 21, 22, 23, 24, 25, 26, 27, 28, 29, 30, 31, 32, 33, 34, 35, 36, 37, 38, 39, 40, 41, 42, 43, 44, 45, 46, 47, 48, 49, 50] (by decide +kernel) (by decide +kernel)
set_option maxRecDepth 20000 in
theorem gX5_wallOf_X5_onWall : GoodIn wsX5_wallOf (wsV RX5 213 RX5 yX5_onWall wsX5_onWall) := goodIn_app (goodIn_of _ (by decide +kernel)) ggX5_wallOf_X5_onWall
theorem dX5_wallOf_0 : decode cX5_wallOf 0 = .ok (.iload_n 1, 1) := by decide +kernel
theorem dX5_wallOf_1 : decode cX5_wallOf 1 = .ok (.invokestatic 200, 3) := by decide +kernel
theorem dX5_wallOf_4 : decode cX5_wallOf 4 = .ok (.ifCond .eq 12, 3) := by decide +kernel
theorem dX5_wallOf_7 : decode cX5_wallOf 7 = .ok (.iload_n 2, 1) := by decide +kernel
theorem dX5_wallOf_8 : decode cX5_wallOf 8 = .ok (.iconst 0, 1) := by decide +kernel
theorem dX5_wallOf_9 : decode cX5_wallOf 9 = .ok (.iconst 3, 1) := by decide +kernel
theorem dX5_wallOf_10 : decode cX5_wallOf 10 = .ok (.invokestatic 60, 3) := by decide +kernel
theorem dX5_wallOf_13 : decode cX5_wallOf 13 = .ok (.ifCond .ne 5, 3) := by decide +kernel
theorem dX5_wallOf_16 : decode cX5_wallOf 16 = .ok (.iconst (-1), 1) := by decide +kernel
theorem dX5_wallOf_17 : decode cX5_wallOf 17 = .ok (.ireturn, 1) := by decide +kernel
theorem dX5_wallOf_18 : decode cX5_wallOf 18 = .ok (.iload_n 2, 1) := by decide +kernel
theorem dX5_wallOf_19 : decode cX5_wallOf 19 = .ok (.iconst 2, 1) := by decide +kernel
theorem dX5_wallOf_20 : decode cX5_wallOf 20 = .ok (.if_icmp .ge 19, 3) := by decide +kernel
theorem dX5_wallOf_23 : decode cX5_wallOf 23 = .ok (.aload_n 0, 1) := by decide +kernel
theorem dX5_wallOf_24 : decode cX5_wallOf 24 = .ok (.getfield 7, 3) := by decide +kernel
theorem dX5_wallOf_27 : decode cX5_wallOf 27 = .ok (.bipush 8, 2) := by decide +kernel
theorem dX5_wallOf_29 : decode cX5_wallOf 29 = .ok (.iconst 2, 1) := by decide +kernel
theorem dX5_wallOf_30 : decode cX5_wallOf 30 = .ok (.iload_n 1, 1) := by decide +kernel
theorem dX5_wallOf_31 : decode cX5_wallOf 31 = .ok (.imul, 1) := by decide +kernel
theorem dX5_wallOf_32 : decode cX5_wallOf 32 = .ok (.iadd, 1) := by decide +kernel
theorem dX5_wallOf_33 : decode cX5_wallOf 33 = .ok (.iload_n 2, 1) := by decide +kernel
theorem dX5_wallOf_34 : decode cX5_wallOf 34 = .ok (.iadd, 1) := by decide +kernel
theorem dX5_wallOf_35 : decode cX5_wallOf 35 = .ok (.iaload, 1) := by decide +kernel
theorem dX5_wallOf_36 : decode cX5_wallOf 36 = .ok (.goto 21, 3) := by decide +kernel
theorem dX5_wallOf_39 : decode cX5_wallOf 39 = .ok (.iload_n 2, 1) := by decide +kernel
theorem dX5_wallOf_40 : decode cX5_wallOf 40 = .ok (.iconst 2, 1) := by decide +kernel
theorem dX5_wallOf_41 : decode cX5_wallOf 41 = .ok (.if_icmp .ne 11, 3) := by decide +kernel
theorem dX5_wallOf_44 : decode cX5_wallOf 44 = .ok (.aload_n 0, 1) := by decide +kernel
theorem dX5_wallOf_45 : decode cX5_wallOf 45 = .ok (.iload_n 1, 1) := by decide +kernel
theorem dX5_wallOf_46 : decode cX5_wallOf 46 = .ok (.invokevirtual 236, 3) := by decide +kernel
theorem dX5_wallOf_49 : decode cX5_wallOf 49 = .ok (.goto 8, 3) := by decide +kernel
theorem dX5_wallOf_52 : decode cX5_wallOf 52 = .ok (.aload_n 0, 1) := by decide +kernel
theorem dX5_wallOf_53 : decode cX5_wallOf 53 = .ok (.iload_n 1, 1) := by decide +kernel
theorem dX5_wallOf_54 : decode cX5_wallOf 54 = .ok (.invokevirtual 213, 3) := by decide +kernel
theorem dX5_wallOf_57 : decode cX5_wallOf 57 = .ok (.ireturn, 1) := by decide +kernel
set_option maxRecDepth 20000 in
theorem ggX5_cleaned_X5_ground : GoodIn wsX5_cleaned wsX5_ground := goodIn_r _ [6, 1, 30, 31, 32, 33, 34, 35, 36, 37, 38, 39, 40, 41, 42, 43, 44, 45, 46, 47, 48, 49, 50, 51, 52, 53, 54, 55, 56, 57, 58, 59] (by decide +kernel) (by decide +kernel)
set_option maxRecDepth 20000 in
theorem gX5_cleaned_X5_ground : GoodIn wsX5_cleaned (wsV RX5 219 RX5 yX5_ground wsX5_ground) := goodIn_app (goodIn_of _ (by decide +kernel)) ggX5_cleaned_X5_ground
set_option maxRecDepth 20000 in
theorem ggX5_cleaned_X5_its : GoodIn wsX5_cleaned wsX5_its := goodIn_r _ [10, 1, 30, 31, 32, 33, 34, 35, 36, 37, 38, 39, 40, 41, 42, 43, 44, 45, 46, 47, 48, 49, 50, 51, 52, 53, 54, 55, 56, 57, 58, 59] (by decide +kernel) (by decide +kernel)
set_option maxRecDepth 20000 in
theorem gX5_cleaned_X5_its : GoodIn wsX5_cleaned (wsV RX5 210 RX5 yX5_its wsX5_its) := goodIn_app (goodIn_of _ (by decide +kernel)) ggX5_cleaned_X5_its
set_option maxRecDepth 20000 in
theorem ggX5_cleaned_X5_holds : GoodIn wsX5_cleaned wsX5_holds := goodIn_r _ [14, 1, 7, 8, 9, 5, 10, 15, 16, 17, 18, 19, 20, 21, 22, 23, 24, 25, 30, 31, 32, 33, 34, 35, 36, 37, 38, 39, 40, 41, 42, 43, 44, 45, 46, 47, 48, 49, 50, 51, 52, 53, 54, 55, 56, 57, 58, 59] (by decide +kernel) (by decide +kernel)
set_option maxRecDepth 20000 in
theorem gX5_cleaned_X5_holds : GoodIn wsX5_cleaned (wsV RX5 234 RX5 yX5_holds wsX5_holds) := goodIn_app (goodIn_of _ (by decide +kernel)) ggX5_cleaned_X5_holds
set_option maxRecDepth 20000 in
theorem ggX5_cleaned_X5_sets : GoodIn wsX5_cleaned wsX5_sets := goodIn_r _ [29, 1, 30, 31, 32, 33, 34, 35, 36, 37, 38, 39, 40, 41, 42, 43, 44, 45, 46, 47, 48, 49, 50, 51, 52, 53, 54, 55, 56, 57, 58, 59] (by decide +kernel) (by decide +kernel)
set_option maxRecDepth 20000 in
theorem gX5_cleaned_X5_sets : GoodIn wsX5_cleaned (wsV RX5 203 RX5 yX5_sets wsX5_sets) := goodIn_app (goodIn_of _ (by decide +kernel)) ggX5_cleaned_X5_sets
set_option maxRecDepth 20000 in
theorem ggX5_cleaned_X5_ones : GoodIn wsX5_cleaned wsX5_ones := goodIn_r _ [25] (by decide +kernel) (by decide +kernel)
set_option maxRecDepth 20000 in
theorem gX5_cleaned_X5_ones : GoodIn wsX5_cleaned (va_wsS RX5 216 yX5_ones wsX5_ones) := goodIn_app (goodIn_of _ (by decide +kernel)) ggX5_cleaned_X5_ones
theorem dX5_cleaned_0 : decode cX5_cleaned 0 = .ok (.aload_n 0, 1) := by decide +kernel
theorem dX5_cleaned_1 : decode cX5_cleaned 1 = .ok (.iload_n 1, 1) := by decide +kernel
theorem dX5_cleaned_2 : decode cX5_cleaned 2 = .ok (.invokevirtual 219, 3) := by decide +kernel
theorem dX5_cleaned_5 : decode cX5_cleaned 5 = .ok (.iconst 2, 1) := by decide +kernel
theorem dX5_cleaned_6 : decode cX5_cleaned 6 = .ok (.if_icmp .ne 7, 3) := by decide +kernel
theorem dX5_cleaned_9 : decode cX5_cleaned 9 = .ok (.iconst 1, 1) := by decide +kernel
theorem dX5_cleaned_10 : decode cX5_cleaned 10 = .ok (.goto 4, 3) := by decide +kernel
theorem dX5_cleaned_13 : decode cX5_cleaned 13 = .ok (.iconst 0, 1) := by decide +kernel
theorem dX5_cleaned_14 : decode cX5_cleaned 14 = .ok (.istore_n 2, 1) := by decide +kernel
theorem dX5_cleaned_15 : decode cX5_cleaned 15 = .ok (.iconst 0, 1) := by decide +kernel
theorem dX5_cleaned_16 : decode cX5_cleaned 16 = .ok (.istore_n 3, 1) := by decide +kernel
theorem dX5_cleaned_17 : decode cX5_cleaned 17 = .ok (.iconst 0, 1) := by decide +kernel
theorem dX5_cleaned_18 : decode cX5_cleaned 18 = .ok (.istore 4, 2) := by decide +kernel
theorem dX5_cleaned_20 : decode cX5_cleaned 20 = .ok (.iload 4, 2) := by decide +kernel
theorem dX5_cleaned_22 : decode cX5_cleaned 22 = .ok (.aload_n 0, 1) := by decide +kernel
theorem dX5_cleaned_23 : decode cX5_cleaned 23 = .ok (.getfield 7, 3) := by decide +kernel
theorem dX5_cleaned_26 : decode cX5_cleaned 26 = .ok (.bipush 6, 2) := by decide +kernel
theorem dX5_cleaned_28 : decode cX5_cleaned 28 = .ok (.iaload, 1) := by decide +kernel
theorem dX5_cleaned_29 : decode cX5_cleaned 29 = .ok (.if_icmp .ge 76, 3) := by decide +kernel
theorem dX5_cleaned_32 : decode cX5_cleaned 32 = .ok (.aload_n 0, 1) := by decide +kernel
theorem dX5_cleaned_33 : decode cX5_cleaned 33 = .ok (.iload 4, 2) := by decide +kernel
theorem dX5_cleaned_35 : decode cX5_cleaned 35 = .ok (.iconst 3, 1) := by decide +kernel
theorem dX5_cleaned_36 : decode cX5_cleaned 36 = .ok (.invokevirtual 210, 3) := by decide +kernel
theorem dX5_cleaned_39 : decode cX5_cleaned 39 = .ok (.iload_n 1, 1) := by decide +kernel
theorem dX5_cleaned_40 : decode cX5_cleaned 40 = .ok (.if_icmp .ne 40, 3) := by decide +kernel
theorem dX5_cleaned_43 : decode cX5_cleaned 43 = .ok (.iload_n 2, 1) := by decide +kernel
theorem dX5_cleaned_44 : decode cX5_cleaned 44 = .ok (.ifCond .eq 17, 3) := by decide +kernel
theorem dX5_cleaned_47 : decode cX5_cleaned 47 = .ok (.aload_n 0, 1) := by decide +kernel
theorem dX5_cleaned_48 : decode cX5_cleaned 48 = .ok (.iload 4, 2) := by decide +kernel
theorem dX5_cleaned_50 : decode cX5_cleaned 50 = .ok (.iconst 0, 1) := by decide +kernel
theorem dX5_cleaned_51 : decode cX5_cleaned 51 = .ok (.invokevirtual 210, 3) := by decide +kernel
theorem dX5_cleaned_54 : decode cX5_cleaned 54 = .ok (.iconst 5, 1) := by decide +kernel
theorem dX5_cleaned_55 : decode cX5_cleaned 55 = .ok (.if_icmp .eq 25, 3) := by decide +kernel
theorem dX5_cleaned_58 : decode cX5_cleaned 58 = .ok (.goto 18, 3) := by decide +kernel
theorem dX5_cleaned_61 : decode cX5_cleaned 61 = .ok (.aload_n 0, 1) := by decide +kernel
theorem dX5_cleaned_62 : decode cX5_cleaned 62 = .ok (.iload 4, 2) := by decide +kernel
theorem dX5_cleaned_64 : decode cX5_cleaned 64 = .ok (.invokevirtual 234, 3) := by decide +kernel
theorem dX5_cleaned_67 : decode cX5_cleaned 67 = .ok (.aload_n 0, 1) := by decide +kernel
theorem dX5_cleaned_68 : decode cX5_cleaned 68 = .ok (.getfield 7, 3) := by decide +kernel
theorem dX5_cleaned_71 : decode cX5_cleaned 71 = .ok (.iconst 2, 1) := by decide +kernel
theorem dX5_cleaned_72 : decode cX5_cleaned 72 = .ok (.iaload, 1) := by decide +kernel
theorem dX5_cleaned_73 : decode cX5_cleaned 73 = .ok (.if_icmp .gt 7, 3) := by decide +kernel
theorem dX5_cleaned_76 : decode cX5_cleaned 76 = .ok (.iconst 1, 1) := by decide +kernel
theorem dX5_cleaned_77 : decode cX5_cleaned 77 = .ok (.goto 4, 3) := by decide +kernel
theorem dX5_cleaned_80 : decode cX5_cleaned 80 = .ok (.iconst 0, 1) := by decide +kernel
theorem dX5_cleaned_81 : decode cX5_cleaned 81 = .ok (.istore 5, 2) := by decide +kernel
theorem dX5_cleaned_83 : decode cX5_cleaned 83 = .ok (.iload_n 3, 1) := by decide +kernel
theorem dX5_cleaned_84 : decode cX5_cleaned 84 = .ok (.iload 5, 2) := by decide +kernel
theorem dX5_cleaned_86 : decode cX5_cleaned 86 = .ok (.ifCond .eq 10, 3) := by decide +kernel
theorem dX5_cleaned_89 : decode cX5_cleaned 89 = .ok (.iconst 1, 1) := by decide +kernel
theorem dX5_cleaned_90 : decode cX5_cleaned 90 = .ok (.iload 4, 2) := by decide +kernel
theorem dX5_cleaned_92 : decode cX5_cleaned 92 = .ok (.ishl, 1) := by decide +kernel
theorem dX5_cleaned_93 : decode cX5_cleaned 93 = .ok (.goto 4, 3) := by decide +kernel
theorem dX5_cleaned_96 : decode cX5_cleaned 96 = .ok (.iconst 0, 1) := by decide +kernel
theorem dX5_cleaned_97 : decode cX5_cleaned 97 = .ok (.ior, 1) := by decide +kernel
theorem dX5_cleaned_98 : decode cX5_cleaned 98 = .ok (.istore_n 3, 1) := by decide +kernel
theorem dX5_cleaned_99 : decode cX5_cleaned 99 = .ok (.iinc 4 1, 3) := by decide +kernel
theorem dX5_cleaned_102 : decode cX5_cleaned 102 = .ok (.goto (-82), 3) := by decide +kernel
theorem dX5_cleaned_105 : decode cX5_cleaned 105 = .ok (.iconst 0, 1) := by decide +kernel
theorem dX5_cleaned_106 : decode cX5_cleaned 106 = .ok (.istore 4, 2) := by decide +kernel
theorem dX5_cleaned_108 : decode cX5_cleaned 108 = .ok (.iload 4, 2) := by decide +kernel
theorem dX5_cleaned_110 : decode cX5_cleaned 110 = .ok (.aload_n 0, 1) := by decide +kernel
theorem dX5_cleaned_111 : decode cX5_cleaned 111 = .ok (.getfield 7, 3) := by decide +kernel
theorem dX5_cleaned_114 : decode cX5_cleaned 114 = .ok (.bipush 6, 2) := by decide +kernel
theorem dX5_cleaned_116 : decode cX5_cleaned 116 = .ok (.iaload, 1) := by decide +kernel
theorem dX5_cleaned_117 : decode cX5_cleaned 117 = .ok (.if_icmp .ge 36, 3) := by decide +kernel
theorem dX5_cleaned_120 : decode cX5_cleaned 120 = .ok (.iload_n 3, 1) := by decide +kernel
theorem dX5_cleaned_121 : decode cX5_cleaned 121 = .ok (.iload 4, 2) := by decide +kernel
theorem dX5_cleaned_123 : decode cX5_cleaned 123 = .ok (.ishr, 1) := by decide +kernel
theorem dX5_cleaned_124 : decode cX5_cleaned 124 = .ok (.iconst 1, 1) := by decide +kernel
theorem dX5_cleaned_125 : decode cX5_cleaned 125 = .ok (.iand, 1) := by decide +kernel
theorem dX5_cleaned_126 : decode cX5_cleaned 126 = .ok (.iconst 1, 1) := by decide +kernel
theorem dX5_cleaned_127 : decode cX5_cleaned 127 = .ok (.if_icmp .ne 20, 3) := by decide +kernel
theorem dX5_cleaned_130 : decode cX5_cleaned 130 = .ok (.aload_n 0, 1) := by decide +kernel
theorem dX5_cleaned_131 : decode cX5_cleaned 131 = .ok (.iload 4, 2) := by decide +kernel
theorem dX5_cleaned_133 : decode cX5_cleaned 133 = .ok (.iconst 3, 1) := by decide +kernel
theorem dX5_cleaned_134 : decode cX5_cleaned 134 = .ok (.bipush 10, 2) := by decide +kernel
theorem dX5_cleaned_136 : decode cX5_cleaned 136 = .ok (.invokevirtual 203, 3) := by decide +kernel
theorem dX5_cleaned_139 : decode cX5_cleaned 139 = .ok (.aload_n 0, 1) := by decide +kernel
theorem dX5_cleaned_140 : decode cX5_cleaned 140 = .ok (.iload 4, 2) := by decide +kernel
theorem dX5_cleaned_142 : decode cX5_cleaned 142 = .ok (.iconst 4, 1) := by decide +kernel
theorem dX5_cleaned_143 : decode cX5_cleaned 143 = .ok (.iconst 0, 1) := by decide +kernel
theorem dX5_cleaned_144 : decode cX5_cleaned 144 = .ok (.invokevirtual 203, 3) := by decide +kernel
theorem dX5_cleaned_147 : decode cX5_cleaned 147 = .ok (.iinc 4 1, 3) := by decide +kernel
theorem dX5_cleaned_150 : decode cX5_cleaned 150 = .ok (.goto (-42), 3) := by decide +kernel
theorem dX5_cleaned_153 : decode cX5_cleaned 153 = .ok (.aload_n 0, 1) := by decide +kernel
theorem dX5_cleaned_154 : decode cX5_cleaned 154 = .ok (.getfield 7, 3) := by decide +kernel
theorem dX5_cleaned_157 : decode cX5_cleaned 157 = .ok (.bipush 8, 2) := by decide +kernel
theorem dX5_cleaned_159 : decode cX5_cleaned 159 = .ok (.iconst 2, 1) := by decide +kernel
theorem dX5_cleaned_160 : decode cX5_cleaned 160 = .ok (.iload_n 1, 1) := by decide +kernel
theorem dX5_cleaned_161 : decode cX5_cleaned 161 = .ok (.imul, 1) := by decide +kernel
theorem dX5_cleaned_162 : decode cX5_cleaned 162 = .ok (.iadd, 1) := by decide +kernel
theorem dX5_cleaned_163 : decode cX5_cleaned 163 = .ok (.iload_n 2, 1) := by decide +kernel
theorem dX5_cleaned_164 : decode cX5_cleaned 164 = .ok (.ifCond .eq 7, 3) := by decide +kernel
theorem dX5_cleaned_167 : decode cX5_cleaned 167 = .ok (.iconst 2, 1) := by decide +kernel
theorem dX5_cleaned_168 : decode cX5_cleaned 168 = .ok (.goto 4, 3) := by decide +kernel
theorem dX5_cleaned_171 : decode cX5_cleaned 171 = .ok (.iconst 1, 1) := by decide +kernel
theorem dX5_cleaned_172 : decode cX5_cleaned 172 = .ok (.iastore, 1) := by decide +kernel
theorem dX5_cleaned_173 : decode cX5_cleaned 173 = .ok (.iload_n 3, 1) := by decide +kernel
theorem dX5_cleaned_174 : decode cX5_cleaned 174 = .ok (.invokestatic 216, 3) := by decide +kernel
theorem dX5_cleaned_177 : decode cX5_cleaned 177 = .ok (.ireturn, 1) := by decide +kernel
set_option maxRecDepth 20000 in
theorem ggX5_clean_X5_isWall : GoodIn wsX5_clean wsX5_isWall := goodIn_r _ [4, 5, 6, 3, 7] (by decide +kernel) (by decide +kernel)
set_option maxRecDepth 20000 in
theorem gX5_clean_X5_isWall : GoodIn wsX5_clean (va_wsS RX5 200 yX5_isWall wsX5_isWall) := goodIn_app (goodIn_of _ (by decide +kernel)) ggX5_clean_X5_isWall
set_option maxRecDepth 20000 in
theorem ggX5_clean_X5_cleaned : GoodIn wsX5_clean wsX5_cleaned := goodIn_r _ [11, 12, 13, 14, 15, 3, 16, 17, 18, 19, 20, 21, 22, 23, 24, 25, 26, 27, 28, 29, 30, 31, 32, 33, 34, 35, 36, 37, 38, 39, 40, 41, 42, 43, 44, 45, 46, 47, 48, 49, 50, 51, 52, 53, 54, 55, 56, 57, 58, 59, 60, 61, 62, 63, 64, 65, 66, 67, 68, 69] (by decide +kernel) (by decide +kernel)
set_option maxRecDepth 20000 in
theorem gX5_clean_X5_cleaned : GoodIn wsX5_clean (wsV RX5 239 RX5 yX5_cleaned wsX5_cleaned) := goodIn_app (goodIn_of _ (by decide +kernel)) ggX5_clean_X5_cleaned
theorem dX5_clean_0 : decode cX5_clean 0 = .ok (.iload_n 1, 1) := by decide +kernel
theorem dX5_clean_1 : decode cX5_clean 1 = .ok (.invokestatic 200, 3) := by decide +kernel
theorem dX5_clean_4 : decode cX5_clean 4 = .ok (.ifCond .eq 11, 3) := by decide +kernel
theorem dX5_clean_7 : decode cX5_clean 7 = .ok (.aload_n 0, 1) := by decide +kernel
theorem dX5_clean_8 : decode cX5_clean 8 = .ok (.iload_n 1, 1) := by decide +kernel
theorem dX5_clean_9 : decode cX5_clean 9 = .ok (.invokevirtual 239, 3) := by decide +kernel
theorem dX5_clean_12 : decode cX5_clean 12 = .ok (.goto 4, 3) := by decide +kernel
theorem dX5_clean_15 : decode cX5_clean 15 = .ok (.iconst (-1), 1) := by decide +kernel
theorem dX5_clean_16 : decode cX5_clean 16 = .ok (.ireturn, 1) := by decide +kernel
set_option maxRecDepth 20000 in
theorem ggX5_comesBack_X5_its : GoodIn wsX5_comesBack wsX5_its := goodIn_r _ [6, 1, 18, 19, 20, 21, 22, 23, 24, 25, 26, 27, 28, 29, 30, 31, 32, 33, 34, 35, 36, 37, 38, 39, 40, 41, 42, 43, 44, 45, 46, 47] (by decide +kernel) (by decide +kernel)
set_option maxRecDepth 20000 in
theorem gX5_comesBack_X5_its : GoodIn wsX5_comesBack (wsV RX5 210 RX5 yX5_its wsX5_its) := goodIn_app (goodIn_of _ (by decide +kernel)) ggX5_comesBack_X5_its
set_option maxRecDepth 20000 in
theorem ggX5_comesBack_X5_held : GoodIn wsX5_comesBack wsX5_held := goodIn_r _ [9] (by decide +kernel) (by decide +kernel)
set_option maxRecDepth 20000 in
theorem gX5_comesBack_X5_held : GoodIn wsX5_comesBack (va_wsS RX5 242 yX5_held wsX5_held) := goodIn_app (goodIn_of _ (by decide +kernel)) ggX5_comesBack_X5_held
set_option maxRecDepth 20000 in
theorem ggX5_comesBack_X5_sets : GoodIn wsX5_comesBack wsX5_sets := goodIn_r _ [13, 1, 18, 19, 20, 21, 22, 23, 24, 25, 26, 27, 28, 29, 30, 31, 32, 33, 34, 35, 36, 37, 38, 39, 40, 41, 42, 43, 44, 45, 46, 47] (by decide +kernel) (by decide +kernel)
set_option maxRecDepth 20000 in
theorem gX5_comesBack_X5_sets : GoodIn wsX5_comesBack (wsV RX5 203 RX5 yX5_sets wsX5_sets) := goodIn_app (goodIn_of _ (by decide +kernel)) ggX5_comesBack_X5_sets
set_option maxRecDepth 20000 in
theorem ggX5_comesBack_X5_back : GoodIn wsX5_comesBack wsX5_back := goodIn_r _ [17, 2, 3, 4, 5, 6, 1, 18, 19, 20, 21, 22, 23, 24, 25, 26, 27, 28, 29, 30, 31, 32, 33, 34, 35, 36, 37, 38, 39, 40, 41, 42, 43, 44, 45, 46, 47] (by decide +kernel) (by decide +kernel)
set_option maxRecDepth 20000 in
theorem gX5_comesBack_X5_back : GoodIn wsX5_comesBack (wsV RX5 225 RX5 yX5_back wsX5_back) := goodIn_app (goodIn_of _ (by decide +kernel)) ggX5_comesBack_X5_back
theorem dX5_comesBack_0 : decode cX5_comesBack 0 = .ok (.aload_n 0, 1) := by decide +kernel
theorem dX5_comesBack_1 : decode cX5_comesBack 1 = .ok (.iload_n 1, 1) := by decide +kernel
theorem dX5_comesBack_2 : decode cX5_comesBack 2 = .ok (.iconst 4, 1) := by decide +kernel
theorem dX5_comesBack_3 : decode cX5_comesBack 3 = .ok (.aload_n 0, 1) := by decide +kernel
theorem dX5_comesBack_4 : decode cX5_comesBack 4 = .ok (.iload_n 1, 1) := by decide +kernel
theorem dX5_comesBack_5 : decode cX5_comesBack 5 = .ok (.iconst 4, 1) := by decide +kernel
theorem dX5_comesBack_6 : decode cX5_comesBack 6 = .ok (.invokevirtual 210, 3) := by decide +kernel
theorem dX5_comesBack_9 : decode cX5_comesBack 9 = .ok (.iconst 1, 1) := by decide +kernel
theorem dX5_comesBack_10 : decode cX5_comesBack 10 = .ok (.iadd, 1) := by decide +kernel
theorem dX5_comesBack_11 : decode cX5_comesBack 11 = .ok (.iconst 0, 1) := by decide +kernel
theorem dX5_comesBack_12 : decode cX5_comesBack 12 = .ok (.bipush 99, 2) := by decide +kernel
theorem dX5_comesBack_14 : decode cX5_comesBack 14 = .ok (.invokestatic 242, 3) := by decide +kernel
theorem dX5_comesBack_17 : decode cX5_comesBack 17 = .ok (.invokevirtual 203, 3) := by decide +kernel
theorem dX5_comesBack_20 : decode cX5_comesBack 20 = .ok (.aload_n 0, 1) := by decide +kernel
theorem dX5_comesBack_21 : decode cX5_comesBack 21 = .ok (.iload_n 1, 1) := by decide +kernel
theorem dX5_comesBack_22 : decode cX5_comesBack 22 = .ok (.iconst 4, 1) := by decide +kernel
theorem dX5_comesBack_23 : decode cX5_comesBack 23 = .ok (.invokevirtual 210, 3) := by decide +kernel
theorem dX5_comesBack_26 : decode cX5_comesBack 26 = .ok (.aload_n 0, 1) := by decide +kernel
theorem dX5_comesBack_27 : decode cX5_comesBack 27 = .ok (.iload_n 1, 1) := by decide +kernel
theorem dX5_comesBack_28 : decode cX5_comesBack 28 = .ok (.invokevirtual 225, 3) := by decide +kernel
theorem dX5_comesBack_31 : decode cX5_comesBack 31 = .ok (.if_icmp .lt 39, 3) := by decide +kernel
theorem dX5_comesBack_34 : decode cX5_comesBack 34 = .ok (.aload_n 0, 1) := by decide +kernel
theorem dX5_comesBack_35 : decode cX5_comesBack 35 = .ok (.iload_n 1, 1) := by decide +kernel
theorem dX5_comesBack_36 : decode cX5_comesBack 36 = .ok (.iconst 3, 1) := by decide +kernel
theorem dX5_comesBack_37 : decode cX5_comesBack 37 = .ok (.aload_n 0, 1) := by decide +kernel
theorem dX5_comesBack_38 : decode cX5_comesBack 38 = .ok (.iload_n 1, 1) := by decide +kernel
theorem dX5_comesBack_39 : decode cX5_comesBack 39 = .ok (.iconst 1, 1) := by decide +kernel
theorem dX5_comesBack_40 : decode cX5_comesBack 40 = .ok (.invokevirtual 210, 3) := by decide +kernel
theorem dX5_comesBack_43 : decode cX5_comesBack 43 = .ok (.aload_n 0, 1) := by decide +kernel
theorem dX5_comesBack_44 : decode cX5_comesBack 44 = .ok (.getfield 7, 3) := by decide +kernel
theorem dX5_comesBack_47 : decode cX5_comesBack 47 = .ok (.iconst 4, 1) := by decide +kernel
theorem dX5_comesBack_48 : decode cX5_comesBack 48 = .ok (.iaload, 1) := by decide +kernel
theorem dX5_comesBack_49 : decode cX5_comesBack 49 = .ok (.iadd, 1) := by decide +kernel
theorem dX5_comesBack_50 : decode cX5_comesBack 50 = .ok (.bipush 10, 2) := by decide +kernel
theorem dX5_comesBack_52 : decode cX5_comesBack 52 = .ok (.irem, 1) := by decide +kernel
theorem dX5_comesBack_53 : decode cX5_comesBack 53 = .ok (.invokevirtual 203, 3) := by decide +kernel
theorem dX5_comesBack_56 : decode cX5_comesBack 56 = .ok (.aload_n 0, 1) := by decide +kernel
theorem dX5_comesBack_57 : decode cX5_comesBack 57 = .ok (.iload_n 1, 1) := by decide +kernel
theorem dX5_comesBack_58 : decode cX5_comesBack 58 = .ok (.iconst 4, 1) := by decide +kernel
theorem dX5_comesBack_59 : decode cX5_comesBack 59 = .ok (.iconst 0, 1) := by decide +kernel
theorem dX5_comesBack_60 : decode cX5_comesBack 60 = .ok (.invokevirtual 203, 3) := by decide +kernel
theorem dX5_comesBack_63 : decode cX5_comesBack 63 = .ok (.aload_n 0, 1) := by decide +kernel
theorem dX5_comesBack_64 : decode cX5_comesBack 64 = .ok (.iload_n 1, 1) := by decide +kernel
theorem dX5_comesBack_65 : decode cX5_comesBack 65 = .ok (.iconst 2, 1) := by decide +kernel
theorem dX5_comesBack_66 : decode cX5_comesBack 66 = .ok (.iconst 5, 1) := by decide +kernel
theorem dX5_comesBack_67 : decode cX5_comesBack 67 = .ok (.invokevirtual 203, 3) := by decide +kernel
theorem dX5_comesBack_70 : decode cX5_comesBack 70 = .ok (.return_, 1) := by decide +kernel
set_option maxRecDepth 20000 in
theorem ggX5_bucket_X5_looks : GoodIn wsX5_bucket wsX5_looks := goodIn_r _ [5, 6, 7, 8, 9, 4, 10, 38, 39, 40, 41, 42, 43, 44, 45, 46, 47, 48, 49, 50, 51, 52, 53, 54, 55, 56, 57, 58, 59, 60, 61, 62, 63, 64, 65, 66, 67] (by decide +kernel) (by decide +kernel)
set_option maxRecDepth 20000 in
theorem gX5_bucket_X5_looks : GoodIn wsX5_bucket (wsV RX5 236 RX5 yX5_looks wsX5_looks) := goodIn_app (goodIn_of _ (by decide +kernel)) ggX5_bucket_X5_looks
set_option maxRecDepth 20000 in
theorem ggX5_bucket_X5_cleaned : GoodIn wsX5_bucket wsX5_cleaned := goodIn_r _ [14, 6, 15, 16, 17, 4, 18, 7, 8, 9, 10, 19, 20, 21, 22, 23, 24, 25, 26, 27, 28, 29, 30, 31, 32, 33, 34, 35, 36, 37, 38, 39, 40, 41, 42, 43, 44, 45, 46, 47, 48, 49, 50, 51, 52, 53, 54, 55, 56, 57, 58, 59, 60, 61, 62, 63, 64, 65, 66, 67] (by decide +kernel) (by decide +kernel)
set_option maxRecDepth 20000 in
theorem gX5_bucket_X5_cleaned : GoodIn wsX5_bucket (wsV RX5 239 RX5 yX5_cleaned wsX5_cleaned) := goodIn_app (goodIn_of _ (by decide +kernel)) ggX5_bucket_X5_cleaned
theorem dX5_bucket_0 : decode cX5_bucket 0 = .ok (.iconst 0, 1) := by decide +kernel
theorem dX5_bucket_1 : decode cX5_bucket 1 = .ok (.istore_n 1, 1) := by decide +kernel
theorem dX5_bucket_2 : decode cX5_bucket 2 = .ok (.iconst 1, 1) := by decide +kernel
theorem dX5_bucket_3 : decode cX5_bucket 3 = .ok (.istore_n 2, 1) := by decide +kernel
theorem dX5_bucket_4 : decode cX5_bucket 4 = .ok (.iload_n 2, 1) := by decide +kernel
theorem dX5_bucket_5 : decode cX5_bucket 5 = .ok (.bipush 10, 2) := by decide +kernel
theorem dX5_bucket_7 : decode cX5_bucket 7 = .ok (.if_icmp .ge 28, 3) := by decide +kernel
theorem dX5_bucket_10 : decode cX5_bucket 10 = .ok (.aload_n 0, 1) := by decide +kernel
theorem dX5_bucket_11 : decode cX5_bucket 11 = .ok (.iload_n 2, 1) := by decide +kernel
theorem dX5_bucket_12 : decode cX5_bucket 12 = .ok (.invokevirtual 236, 3) := by decide +kernel
theorem dX5_bucket_15 : decode cX5_bucket 15 = .ok (.aload_n 0, 1) := by decide +kernel
theorem dX5_bucket_16 : decode cX5_bucket 16 = .ok (.iload_n 1, 1) := by decide +kernel
theorem dX5_bucket_17 : decode cX5_bucket 17 = .ok (.invokevirtual 236, 3) := by decide +kernel
theorem dX5_bucket_20 : decode cX5_bucket 20 = .ok (.if_icmp .le 7, 3) := by decide +kernel
theorem dX5_bucket_23 : decode cX5_bucket 23 = .ok (.iload_n 2, 1) := by decide +kernel
theorem dX5_bucket_24 : decode cX5_bucket 24 = .ok (.goto 4, 3) := by decide +kernel
theorem dX5_bucket_27 : decode cX5_bucket 27 = .ok (.iload_n 1, 1) := by decide +kernel
theorem dX5_bucket_28 : decode cX5_bucket 28 = .ok (.istore_n 1, 1) := by decide +kernel
theorem dX5_bucket_29 : decode cX5_bucket 29 = .ok (.iinc 2 1, 3) := by decide +kernel
theorem dX5_bucket_32 : decode cX5_bucket 32 = .ok (.goto (-28), 3) := by decide +kernel
theorem dX5_bucket_35 : decode cX5_bucket 35 = .ok (.aload_n 0, 1) := by decide +kernel
theorem dX5_bucket_36 : decode cX5_bucket 36 = .ok (.iload_n 1, 1) := by decide +kernel
theorem dX5_bucket_37 : decode cX5_bucket 37 = .ok (.invokevirtual 236, 3) := by decide +kernel
theorem dX5_bucket_40 : decode cX5_bucket 40 = .ok (.ifCond .le 9, 3) := by decide +kernel
theorem dX5_bucket_43 : decode cX5_bucket 43 = .ok (.aload_n 0, 1) := by decide +kernel
theorem dX5_bucket_44 : decode cX5_bucket 44 = .ok (.iload_n 1, 1) := by decide +kernel
theorem dX5_bucket_45 : decode cX5_bucket 45 = .ok (.invokevirtual 239, 3) := by decide +kernel
theorem dX5_bucket_48 : decode cX5_bucket 48 = .ok (.pop, 1) := by decide +kernel
theorem dX5_bucket_49 : decode cX5_bucket 49 = .ok (.return_, 1) := by decide +kernel
set_option maxRecDepth 20000 in
theorem ggX5_nightGoes_X5_isGone : GoodIn wsX5_nightGoes wsX5_isGone := goodIn_r _ [9, 10, 11, 12, 8, 13, 1, 68, 69, 70, 71, 72, 73, 74, 75, 76, 77, 78, 79, 80, 81, 82, 83, 84, 85, 86, 87, 88, 89, 90, 91, 92, 93, 94, 95, 96, 97] (by decide +kernel) (by decide +kernel)
set_option maxRecDepth 20000 in
theorem gX5_nightGoes_X5_isGone : GoodIn wsX5_nightGoes (wsV RX5 228 RX5 yX5_isGone wsX5_isGone) := goodIn_app (goodIn_of _ (by decide +kernel)) ggX5_nightGoes_X5_isGone
set_option maxRecDepth 20000 in
theorem ggX5_nightGoes_X5_comesBack : GoodIn wsX5_nightGoes wsX5_comesBack := goodIn_r _ [17, 1, 10, 11, 12, 8, 13, 18, 19, 20, 21, 22, 23, 24, 25, 26, 27, 28, 68, 69, 70, 71, 72, 73, 74, 75, 76, 77, 78, 79, 80, 81, 82, 83, 84, 85, 86, 87, 88, 89, 90, 91, 92, 93, 94, 95, 96, 97] (by decide +kernel) (by decide +kernel)
set_option maxRecDepth 20000 in
theorem gX5_nightGoes_X5_comesBack : GoodIn wsX5_nightGoes (wsV RX5 246 RX5 yX5_comesBack wsX5_comesBack) := goodIn_app (goodIn_of _ (by decide +kernel)) ggX5_nightGoes_X5_comesBack
set_option maxRecDepth 20000 in
theorem ggX5_nightGoes_X5_grows : GoodIn wsX5_nightGoes wsX5_grows := goodIn_r _ [32, 1, 10, 11, 12, 8, 13, 33, 34, 35, 36, 37, 38, 39, 40, 41, 42, 43, 44, 45, 46, 47, 68, 69, 70, 71, 72, 73, 74, 75, 76, 77, 78, 79, 80, 81, 82, 83, 84, 85, 86, 87, 88, 89, 90, 91, 92, 93, 94, 95, 96, 97] (by decide +kernel) (by decide +kernel)
set_option maxRecDepth 20000 in
theorem gX5_nightGoes_X5_grows : GoodIn wsX5_nightGoes (wsV RX5 231 RX5 yX5_grows wsX5_grows) := goodIn_app (goodIn_of _ (by decide +kernel)) ggX5_nightGoes_X5_grows
set_option maxRecDepth 20000 in
theorem ggX5_nightGoes_X5_its : GoodIn wsX5_nightGoes wsX5_its := goodIn_r _ [13, 1, 68, 69, 70, 71, 72, 73, 74, 75, 76, 77, 78, 79, 80, 81, 82, 83, 84, 85, 86, 87, 88, 89, 90, 91, 92, 93, 94, 95, 96, 97] (by decide +kernel) (by decide +kernel)
set_option maxRecDepth 20000 in
theorem gX5_nightGoes_X5_its : GoodIn wsX5_nightGoes (wsV RX5 210 RX5 yX5_its wsX5_its) := goodIn_app (goodIn_of _ (by decide +kernel)) ggX5_nightGoes_X5_its
set_option maxRecDepth 20000 in
theorem ggX5_nightGoes_X5_held : GoodIn wsX5_nightGoes wsX5_held := goodIn_r _ [20] (by decide +kernel) (by decide +kernel)
set_option maxRecDepth 20000 in
theorem gX5_nightGoes_X5_held : GoodIn wsX5_nightGoes (va_wsS RX5 242 yX5_held wsX5_held) := goodIn_app (goodIn_of _ (by decide +kernel)) ggX5_nightGoes_X5_held
set_option maxRecDepth 20000 in
theorem ggX5_nightGoes_X5_sets : GoodIn wsX5_nightGoes wsX5_sets := goodIn_r _ [24, 1, 68, 69, 70, 71, 72, 73, 74, 75, 76, 77, 78, 79, 80, 81, 82, 83, 84, 85, 86, 87, 88, 89, 90, 91, 92, 93, 94, 95, 96, 97] (by decide +kernel) (by decide +kernel)
set_option maxRecDepth 20000 in
theorem gX5_nightGoes_X5_sets : GoodIn wsX5_nightGoes (wsV RX5 203 RX5 yX5_sets wsX5_sets) := goodIn_app (goodIn_of _ (by decide +kernel)) ggX5_nightGoes_X5_sets
set_option maxRecDepth 20000 in
theorem ggX5_nightGoes_X5_bucket : GoodIn wsX5_nightGoes wsX5_bucket := goodIn_r _ [51, 52, 53, 54, 8, 55, 1, 10, 11, 12, 13, 56, 57, 58, 59, 33, 34, 35, 36, 60, 61, 62, 63, 37, 38, 39, 40, 41, 42, 43, 44, 45, 46, 47, 21, 22, 23, 24, 68, 69, 70, 71, 72, 73, 74, 75, 76, 77, 78, 79, 80, 81, 82, 83, 84, 85, 86, 87, 88, 89, 90, 91, 92, 93, 94, 95, 96, 97] (by decide +kernel) (by decide +kernel)
set_option maxRecDepth 20000 in
theorem gX5_nightGoes_X5_bucket : GoodIn wsX5_nightGoes (wsV RX5 249 RX5 yX5_bucket wsX5_bucket) := goodIn_app (goodIn_of _ (by decide +kernel)) ggX5_nightGoes_X5_bucket
set_option maxRecDepth 20000 in
theorem ggX5_nightGoes_X5_looksOfAll : GoodIn wsX5_nightGoes wsX5_looksOfAll := goodIn_r _ [67, 52, 53, 54, 8, 55, 1, 10, 11, 12, 13, 68, 69, 70, 71, 72, 73, 74, 75, 76, 77, 78, 79, 80, 81, 82, 83, 84, 85, 86, 87, 88, 89, 90, 91, 92, 93, 94, 95, 96, 97] (by decide +kernel) (by decide +kernel)
set_option maxRecDepth 20000 in
theorem gX5_nightGoes_X5_looksOfAll : GoodIn wsX5_nightGoes (wsV RX5 252 RX5 yX5_looksOfAll wsX5_looksOfAll) := goodIn_app (goodIn_of _ (by decide +kernel)) ggX5_nightGoes_X5_looksOfAll
theorem dX5_nightGoes_0 : decode cX5_nightGoes 0 = .ok (.iconst 0, 1) := by decide +kernel
theorem dX5_nightGoes_1 : decode cX5_nightGoes 1 = .ok (.istore_n 1, 1) := by decide +kernel
theorem dX5_nightGoes_2 : decode cX5_nightGoes 2 = .ok (.iload_n 1, 1) := by decide +kernel
theorem dX5_nightGoes_3 : decode cX5_nightGoes 3 = .ok (.aload_n 0, 1) := by decide +kernel
theorem dX5_nightGoes_4 : decode cX5_nightGoes 4 = .ok (.getfield 7, 3) := by decide +kernel
theorem dX5_nightGoes_7 : decode cX5_nightGoes 7 = .ok (.bipush 6, 2) := by decide +kernel
theorem dX5_nightGoes_9 : decode cX5_nightGoes 9 = .ok (.iaload, 1) := by decide +kernel
theorem dX5_nightGoes_10 : decode cX5_nightGoes 10 = .ok (.if_icmp .ge 22, 3) := by decide +kernel
theorem dX5_nightGoes_13 : decode cX5_nightGoes 13 = .ok (.aload_n 0, 1) := by decide +kernel
theorem dX5_nightGoes_14 : decode cX5_nightGoes 14 = .ok (.iload_n 1, 1) := by decide +kernel
theorem dX5_nightGoes_15 : decode cX5_nightGoes 15 = .ok (.invokevirtual 228, 3) := by decide +kernel
theorem dX5_nightGoes_18 : decode cX5_nightGoes 18 = .ok (.ifCond .eq 8, 3) := by decide +kernel
theorem dX5_nightGoes_21 : decode cX5_nightGoes 21 = .ok (.aload_n 0, 1) := by decide +kernel
theorem dX5_nightGoes_22 : decode cX5_nightGoes 22 = .ok (.iload_n 1, 1) := by decide +kernel
theorem dX5_nightGoes_23 : decode cX5_nightGoes 23 = .ok (.invokevirtual 246, 3) := by decide +kernel
theorem dX5_nightGoes_26 : decode cX5_nightGoes 26 = .ok (.iinc 1 1, 3) := by decide +kernel
theorem dX5_nightGoes_29 : decode cX5_nightGoes 29 = .ok (.goto (-27), 3) := by decide +kernel
theorem dX5_nightGoes_32 : decode cX5_nightGoes 32 = .ok (.iconst 0, 1) := by decide +kernel
theorem dX5_nightGoes_33 : decode cX5_nightGoes 33 = .ok (.istore_n 1, 1) := by decide +kernel
theorem dX5_nightGoes_34 : decode cX5_nightGoes 34 = .ok (.iload_n 1, 1) := by decide +kernel
theorem dX5_nightGoes_35 : decode cX5_nightGoes 35 = .ok (.aload_n 0, 1) := by decide +kernel
theorem dX5_nightGoes_36 : decode cX5_nightGoes 36 = .ok (.getfield 7, 3) := by decide +kernel
theorem dX5_nightGoes_39 : decode cX5_nightGoes 39 = .ok (.bipush 6, 2) := by decide +kernel
theorem dX5_nightGoes_41 : decode cX5_nightGoes 41 = .ok (.iaload, 1) := by decide +kernel
theorem dX5_nightGoes_42 : decode cX5_nightGoes 42 = .ok (.if_icmp .ge 32, 3) := by decide +kernel
theorem dX5_nightGoes_45 : decode cX5_nightGoes 45 = .ok (.aload_n 0, 1) := by decide +kernel
theorem dX5_nightGoes_46 : decode cX5_nightGoes 46 = .ok (.getfield 25, 3) := by decide +kernel
theorem dX5_nightGoes_49 : decode cX5_nightGoes 49 = .ok (.iload_n 1, 1) := by decide +kernel
theorem dX5_nightGoes_50 : decode cX5_nightGoes 50 = .ok (.aload_n 0, 1) := by decide +kernel
theorem dX5_nightGoes_51 : decode cX5_nightGoes 51 = .ok (.iload_n 1, 1) := by decide +kernel
theorem dX5_nightGoes_52 : decode cX5_nightGoes 52 = .ok (.invokevirtual 228, 3) := by decide +kernel
theorem dX5_nightGoes_55 : decode cX5_nightGoes 55 = .ok (.ifCond .eq 7, 3) := by decide +kernel
theorem dX5_nightGoes_58 : decode cX5_nightGoes 58 = .ok (.iconst 0, 1) := by decide +kernel
theorem dX5_nightGoes_59 : decode cX5_nightGoes 59 = .ok (.goto 8, 3) := by decide +kernel
theorem dX5_nightGoes_62 : decode cX5_nightGoes 62 = .ok (.aload_n 0, 1) := by decide +kernel
theorem dX5_nightGoes_63 : decode cX5_nightGoes 63 = .ok (.iload_n 1, 1) := by decide +kernel
theorem dX5_nightGoes_64 : decode cX5_nightGoes 64 = .ok (.invokevirtual 231, 3) := by decide +kernel
theorem dX5_nightGoes_67 : decode cX5_nightGoes 67 = .ok (.iastore, 1) := by decide +kernel
theorem dX5_nightGoes_68 : decode cX5_nightGoes 68 = .ok (.iinc 1 1, 3) := by decide +kernel
theorem dX5_nightGoes_71 : decode cX5_nightGoes 71 = .ok (.goto (-37), 3) := by decide +kernel
theorem dX5_nightGoes_74 : decode cX5_nightGoes 74 = .ok (.iconst 0, 1) := by decide +kernel
theorem dX5_nightGoes_75 : decode cX5_nightGoes 75 = .ok (.istore_n 1, 1) := by decide +kernel
theorem dX5_nightGoes_76 : decode cX5_nightGoes 76 = .ok (.iload_n 1, 1) := by decide +kernel
theorem dX5_nightGoes_77 : decode cX5_nightGoes 77 = .ok (.aload_n 0, 1) := by decide +kernel
theorem dX5_nightGoes_78 : decode cX5_nightGoes 78 = .ok (.getfield 7, 3) := by decide +kernel
theorem dX5_nightGoes_81 : decode cX5_nightGoes 81 = .ok (.bipush 6, 2) := by decide +kernel
theorem dX5_nightGoes_83 : decode cX5_nightGoes 83 = .ok (.iaload, 1) := by decide +kernel
theorem dX5_nightGoes_84 : decode cX5_nightGoes 84 = .ok (.if_icmp .ge 34, 3) := by decide +kernel
theorem dX5_nightGoes_87 : decode cX5_nightGoes 87 = .ok (.aload_n 0, 1) := by decide +kernel
theorem dX5_nightGoes_88 : decode cX5_nightGoes 88 = .ok (.iload_n 1, 1) := by decide +kernel
theorem dX5_nightGoes_89 : decode cX5_nightGoes 89 = .ok (.iconst 2, 1) := by decide +kernel
theorem dX5_nightGoes_90 : decode cX5_nightGoes 90 = .ok (.aload_n 0, 1) := by decide +kernel
theorem dX5_nightGoes_91 : decode cX5_nightGoes 91 = .ok (.iload_n 1, 1) := by decide +kernel
theorem dX5_nightGoes_92 : decode cX5_nightGoes 92 = .ok (.iconst 2, 1) := by decide +kernel
theorem dX5_nightGoes_93 : decode cX5_nightGoes 93 = .ok (.invokevirtual 210, 3) := by decide +kernel
theorem dX5_nightGoes_96 : decode cX5_nightGoes 96 = .ok (.aload_n 0, 1) := by decide +kernel
theorem dX5_nightGoes_97 : decode cX5_nightGoes 97 = .ok (.getfield 25, 3) := by decide +kernel
theorem dX5_nightGoes_100 : decode cX5_nightGoes 100 = .ok (.iload_n 1, 1) := by decide +kernel
theorem dX5_nightGoes_101 : decode cX5_nightGoes 101 = .ok (.iaload, 1) := by decide +kernel
theorem dX5_nightGoes_102 : decode cX5_nightGoes 102 = .ok (.iadd, 1) := by decide +kernel
theorem dX5_nightGoes_103 : decode cX5_nightGoes 103 = .ok (.iconst 0, 1) := by decide +kernel
theorem dX5_nightGoes_104 : decode cX5_nightGoes 104 = .ok (.bipush 99, 2) := by decide +kernel
theorem dX5_nightGoes_106 : decode cX5_nightGoes 106 = .ok (.invokestatic 242, 3) := by decide +kernel
theorem dX5_nightGoes_109 : decode cX5_nightGoes 109 = .ok (.invokevirtual 203, 3) := by decide +kernel
theorem dX5_nightGoes_112 : decode cX5_nightGoes 112 = .ok (.iinc 1 1, 3) := by decide +kernel
theorem dX5_nightGoes_115 : decode cX5_nightGoes 115 = .ok (.goto (-39), 3) := by decide +kernel
theorem dX5_nightGoes_118 : decode cX5_nightGoes 118 = .ok (.iconst 0, 1) := by decide +kernel
theorem dX5_nightGoes_119 : decode cX5_nightGoes 119 = .ok (.istore_n 1, 1) := by decide +kernel
theorem dX5_nightGoes_120 : decode cX5_nightGoes 120 = .ok (.iload_n 1, 1) := by decide +kernel
theorem dX5_nightGoes_121 : decode cX5_nightGoes 121 = .ok (.aload_n 0, 1) := by decide +kernel
theorem dX5_nightGoes_122 : decode cX5_nightGoes 122 = .ok (.getfield 7, 3) := by decide +kernel
theorem dX5_nightGoes_125 : decode cX5_nightGoes 125 = .ok (.iconst 0, 1) := by decide +kernel
theorem dX5_nightGoes_126 : decode cX5_nightGoes 126 = .ok (.iaload, 1) := by decide +kernel
theorem dX5_nightGoes_127 : decode cX5_nightGoes 127 = .ok (.if_icmp .ge 13, 3) := by decide +kernel
theorem dX5_nightGoes_130 : decode cX5_nightGoes 130 = .ok (.aload_n 0, 1) := by decide +kernel
theorem dX5_nightGoes_131 : decode cX5_nightGoes 131 = .ok (.invokevirtual 249, 3) := by decide +kernel
theorem dX5_nightGoes_134 : decode cX5_nightGoes 134 = .ok (.iinc 1 1, 3) := by decide +kernel
theorem dX5_nightGoes_137 : decode cX5_nightGoes 137 = .ok (.goto (-17), 3) := by decide +kernel
theorem dX5_nightGoes_140 : decode cX5_nightGoes 140 = .ok (.aload_n 0, 1) := by decide +kernel
theorem dX5_nightGoes_141 : decode cX5_nightGoes 141 = .ok (.getfield 7, 3) := by decide +kernel
theorem dX5_nightGoes_144 : decode cX5_nightGoes 144 = .ok (.iconst 4, 1) := by decide +kernel
theorem dX5_nightGoes_145 : decode cX5_nightGoes 145 = .ok (.dup2, 1) := by decide +kernel
theorem dX5_nightGoes_146 : decode cX5_nightGoes 146 = .ok (.iaload, 1) := by decide +kernel
theorem dX5_nightGoes_147 : decode cX5_nightGoes 147 = .ok (.iconst 1, 1) := by decide +kernel
theorem dX5_nightGoes_148 : decode cX5_nightGoes 148 = .ok (.iadd, 1) := by decide +kernel
theorem dX5_nightGoes_149 : decode cX5_nightGoes 149 = .ok (.iastore, 1) := by decide +kernel
theorem dX5_nightGoes_150 : decode cX5_nightGoes 150 = .ok (.aload_n 0, 1) := by decide +kernel
theorem dX5_nightGoes_151 : decode cX5_nightGoes 151 = .ok (.invokevirtual 252, 3) := by decide +kernel
theorem dX5_nightGoes_154 : decode cX5_nightGoes 154 = .ok (.istore_n 1, 1) := by decide +kernel
theorem dX5_nightGoes_155 : decode cX5_nightGoes 155 = .ok (.aload_n 0, 1) := by decide +kernel
theorem dX5_nightGoes_156 : decode cX5_nightGoes 156 = .ok (.dup, 1) := by decide +kernel
theorem dX5_nightGoes_157 : decode cX5_nightGoes 157 = .ok (.getfield 255, 3) := by decide +kernel
theorem dX5_nightGoes_160 : decode cX5_nightGoes 160 = .ok (.iload_n 1, 1) := by decide +kernel
theorem dX5_nightGoes_161 : decode cX5_nightGoes 161 = .ok (.iadd, 1) := by decide +kernel
theorem dX5_nightGoes_162 : decode cX5_nightGoes 162 = .ok (.putfield 255, 3) := by decide +kernel
theorem dX5_nightGoes_165 : decode cX5_nightGoes 165 = .ok (.aload_n 0, 1) := by decide +kernel
theorem dX5_nightGoes_166 : decode cX5_nightGoes 166 = .ok (.getfield 7, 3) := by decide +kernel
theorem dX5_nightGoes_169 : decode cX5_nightGoes 169 = .ok (.iconst 5, 1) := by decide +kernel
theorem dX5_nightGoes_170 : decode cX5_nightGoes 170 = .ok (.aload_n 0, 1) := by decide +kernel
theorem dX5_nightGoes_171 : decode cX5_nightGoes 171 = .ok (.getfield 7, 3) := by decide +kernel
theorem dX5_nightGoes_174 : decode cX5_nightGoes 174 = .ok (.iconst 5, 1) := by decide +kernel
theorem dX5_nightGoes_175 : decode cX5_nightGoes 175 = .ok (.iaload, 1) := by decide +kernel
theorem dX5_nightGoes_176 : decode cX5_nightGoes 176 = .ok (.iload_n 1, 1) := by decide +kernel
theorem dX5_nightGoes_177 : decode cX5_nightGoes 177 = .ok (.iadd, 1) := by decide +kernel
theorem dX5_nightGoes_178 : decode cX5_nightGoes 178 = .ok (.iconst 0, 1) := by decide +kernel
theorem dX5_nightGoes_179 : decode cX5_nightGoes 179 = .ok (.ldc_w 258, 3) := by decide +kernel
theorem dX5_nightGoes_182 : decode cX5_nightGoes 182 = .ok (.invokestatic 242, 3) := by decide +kernel
theorem dX5_nightGoes_185 : decode cX5_nightGoes 185 = .ok (.iastore, 1) := by decide +kernel
theorem dX5_nightGoes_186 : decode cX5_nightGoes 186 = .ok (.return_, 1) := by decide +kernel
set_option maxRecDepth 20000 in
theorem ggX5_nights_X5_in : GoodIn wsX5_nights wsX5_in := goodIn_r _ [5] (by decide +kernel) (by decide +kernel)
set_option maxRecDepth 20000 in
theorem gX5_nights_X5_in : GoodIn wsX5_nights (va_wsS RX5 60 yX5_in wsX5_in) := goodIn_app (goodIn_of _ (by decide +kernel)) ggX5_nights_X5_in
set_option maxRecDepth 20000 in
theorem ggX5_nights_X5_nightGoes : GoodIn wsX5_nights wsX5_nightGoes := goodIn_r _ [9, 10, 11, 1, 12, 13, 14, 15, 4, 16, 17, 18, 19, 20, 21, 22, 23, 24, 25, 26, 27, 28, 29, 30, 31, 32, 33, 34, 35, 36, 37, 38, 39, 40, 41, 42, 43, 44, 45, 46, 47, 48, 49, 50, 51, 52, 53, 54, 55, 56, 57, 58, 59, 60, 61, 62, 63, 64, 65, 66, 67, 68, 69, 70, 71, 72, 73, 74, 75, 76, 77, 78, 79, 80, 81, 82, 83, 84, 85, 86, 87, 88, 89, 90, 91, 92, 93, 94, 95, 96, 97, 98, 99, 100, 101, 102, 103, 104] (by decide +kernel) (by decide +kernel)
set_option maxRecDepth 20000 in
theorem gX5_nights_X5_nightGoes : GoodIn wsX5_nights (wsV RX5 259 RX5 yX5_nightGoes wsX5_nightGoes) := goodIn_app (goodIn_of _ (by decide +kernel)) ggX5_nights_X5_nightGoes
set_option maxRecDepth 20000 in
theorem ggX5_nights_X5_looksOfAll : GoodIn wsX5_nights wsX5_looksOfAll := goodIn_r _ [74, 59, 60, 61, 4, 62, 10, 17, 18, 19, 20, 75, 76, 77, 78, 79, 80, 81, 82, 83, 84, 85, 86, 87, 88, 89, 90, 91, 92, 93, 94, 95, 96, 97, 98, 99, 100, 101, 102, 103, 104] (by decide +kernel) (by decide +kernel)
set_option maxRecDepth 20000 in
theorem gX5_nights_X5_looksOfAll : GoodIn wsX5_nights (wsV RX5 252 RX5 yX5_looksOfAll wsX5_looksOfAll) := goodIn_app (goodIn_of _ (by decide +kernel)) ggX5_nights_X5_looksOfAll
theorem dX5_nights_0 : decode cX5_nights 0 = .ok (.iload_n 1, 1) := by decide +kernel
theorem dX5_nights_1 : decode cX5_nights 1 = .ok (.iconst 1, 1) := by decide +kernel
theorem dX5_nights_2 : decode cX5_nights 2 = .ok (.bipush 60, 2) := by decide +kernel
theorem dX5_nights_4 : decode cX5_nights 4 = .ok (.invokestatic 60, 3) := by decide +kernel
theorem dX5_nights_7 : decode cX5_nights 7 = .ok (.ifCond .ne 5, 3) := by decide +kernel
theorem dX5_nights_10 : decode cX5_nights 10 = .ok (.iconst (-1), 1) := by decide +kernel
theorem dX5_nights_11 : decode cX5_nights 11 = .ok (.ireturn, 1) := by decide +kernel
theorem dX5_nights_12 : decode cX5_nights 12 = .ok (.iconst 0, 1) := by decide +kernel
theorem dX5_nights_13 : decode cX5_nights 13 = .ok (.istore_n 2, 1) := by decide +kernel
theorem dX5_nights_14 : decode cX5_nights 14 = .ok (.iload_n 2, 1) := by decide +kernel
theorem dX5_nights_15 : decode cX5_nights 15 = .ok (.iload_n 1, 1) := by decide +kernel
theorem dX5_nights_16 : decode cX5_nights 16 = .ok (.if_icmp .ge 13, 3) := by decide +kernel
theorem dX5_nights_19 : decode cX5_nights 19 = .ok (.aload_n 0, 1) := by decide +kernel
theorem dX5_nights_20 : decode cX5_nights 20 = .ok (.invokevirtual 259, 3) := by decide +kernel
theorem dX5_nights_23 : decode cX5_nights 23 = .ok (.iinc 2 1, 3) := by decide +kernel
theorem dX5_nights_26 : decode cX5_nights 26 = .ok (.goto (-12), 3) := by decide +kernel
theorem dX5_nights_29 : decode cX5_nights 29 = .ok (.aload_n 0, 1) := by decide +kernel
theorem dX5_nights_30 : decode cX5_nights 30 = .ok (.iconst 0, 1) := by decide +kernel
theorem dX5_nights_31 : decode cX5_nights 31 = .ok (.putfield 255, 3) := by decide +kernel
theorem dX5_nights_34 : decode cX5_nights 34 = .ok (.aload_n 0, 1) := by decide +kernel
theorem dX5_nights_35 : decode cX5_nights 35 = .ok (.invokevirtual 252, 3) := by decide +kernel
theorem dX5_nights_38 : decode cX5_nights 38 = .ok (.ireturn, 1) := by decide +kernel
theorem dX5_drawn_0 : decode cX5_drawn 0 = .ok (.aload_n 0, 1) := by decide +kernel
theorem dX5_drawn_1 : decode cX5_drawn 1 = .ok (.getfield 7, 3) := by decide +kernel
theorem dX5_drawn_4 : decode cX5_drawn 4 = .ok (.bipush 7, 2) := by decide +kernel
theorem dX5_drawn_6 : decode cX5_drawn 6 = .ok (.aload_n 0, 1) := by decide +kernel
theorem dX5_drawn_7 : decode cX5_drawn 7 = .ok (.getfield 7, 3) := by decide +kernel
theorem dX5_drawn_10 : decode cX5_drawn 10 = .ok (.bipush 7, 2) := by decide +kernel
theorem dX5_drawn_12 : decode cX5_drawn 12 = .ok (.iaload, 1) := by decide +kernel
theorem dX5_drawn_13 : decode cX5_drawn 13 = .ok (.ldc_w 262, 3) := by decide +kernel
theorem dX5_drawn_16 : decode cX5_drawn 16 = .ok (.imul, 1) := by decide +kernel
theorem dX5_drawn_17 : decode cX5_drawn 17 = .ok (.sipush 12345, 3) := by decide +kernel
theorem dX5_drawn_20 : decode cX5_drawn 20 = .ok (.iadd, 1) := by decide +kernel
theorem dX5_drawn_21 : decode cX5_drawn 21 = .ok (.iastore, 1) := by decide +kernel
theorem dX5_drawn_22 : decode cX5_drawn 22 = .ok (.aload_n 0, 1) := by decide +kernel
theorem dX5_drawn_23 : decode cX5_drawn 23 = .ok (.getfield 7, 3) := by decide +kernel
theorem dX5_drawn_26 : decode cX5_drawn 26 = .ok (.bipush 7, 2) := by decide +kernel
theorem dX5_drawn_28 : decode cX5_drawn 28 = .ok (.iaload, 1) := by decide +kernel
theorem dX5_drawn_29 : decode cX5_drawn 29 = .ok (.bipush 16, 2) := by decide +kernel
theorem dX5_drawn_31 : decode cX5_drawn 31 = .ok (.iushr, 1) := by decide +kernel
theorem dX5_drawn_32 : decode cX5_drawn 32 = .ok (.ireturn, 1) := by decide +kernel
set_option maxRecDepth 20000 in
theorem ggX5_seed_X5_becomes : GoodIn wsX5_seed wsX5_becomes := goodIn_r _ [5, 6, 7, 8, 9, 10, 11, 12, 13, 14, 15, 16, 17, 18, 19, 20, 21, 22, 23, 24, 25, 26, 27, 28, 29, 30, 31, 32, 33, 34, 35, 36] (by decide +kernel) (by decide +kernel)
set_option maxRecDepth 20000 in
theorem gX5_seed_X5_becomes : GoodIn wsX5_seed (wsV RX5 193 RX5 yX5_becomes wsX5_becomes) := goodIn_app (goodIn_of _ (by decide +kernel)) ggX5_seed_X5_becomes
theorem dX5_seed_0 : decode cX5_seed 0 = .ok (.aload_n 0, 1) := by decide +kernel
theorem dX5_seed_1 : decode cX5_seed 1 = .ok (.bipush 7, 2) := by decide +kernel
theorem dX5_seed_3 : decode cX5_seed 3 = .ok (.iload_n 1, 1) := by decide +kernel
theorem dX5_seed_4 : decode cX5_seed 4 = .ok (.invokevirtual 193, 3) := by decide +kernel
theorem dX5_seed_7 : decode cX5_seed 7 = .ok (.ireturn, 1) := by decide +kernel
set_option maxRecDepth 20000 in
theorem ggX5_nightByDraws_X5_drawn : GoodIn wsX5_nightByDraws wsX5_drawn := goodIn_r _ [6, 1, 7, 77, 78, 79, 80, 81, 82, 83, 84, 85, 86, 87, 88, 89, 90, 91, 92, 93, 94, 95, 96, 97, 98, 99, 100, 101, 102, 103, 104, 105, 106] (by decide +kernel) (by decide +kernel)
set_option maxRecDepth 20000 in
theorem gX5_nightByDraws_X5_drawn : GoodIn wsX5_nightByDraws (wsV RX5 263 RX5 yX5_drawn wsX5_drawn) := goodIn_app (goodIn_of _ (by decide +kernel)) ggX5_nightByDraws_X5_drawn
set_option maxRecDepth 20000 in
theorem ggX5_nightByDraws_X5_its : GoodIn wsX5_nightByDraws wsX5_its := goodIn_r _ [11, 1, 77, 78, 79, 80, 81, 82, 83, 84, 85, 86, 87, 88, 89, 90, 91, 92, 93, 94, 95, 96, 97, 98, 99, 100, 101, 102, 103, 104, 105, 106] (by decide +kernel) (by decide +kernel)
set_option maxRecDepth 20000 in
theorem gX5_nightByDraws_X5_its : GoodIn wsX5_nightByDraws (wsV RX5 210 RX5 yX5_its wsX5_its) := goodIn_app (goodIn_of _ (by decide +kernel)) ggX5_nightByDraws_X5_its
set_option maxRecDepth 20000 in
theorem ggX5_nightByDraws_X5_sets : GoodIn wsX5_nightByDraws wsX5_sets := goodIn_r _ [15, 1, 77, 78, 79, 80, 81, 82, 83, 84, 85, 86, 87, 88, 89, 90, 91, 92, 93, 94, 95, 96, 97, 98, 99, 100, 101, 102, 103, 104, 105, 106] (by decide +kernel) (by decide +kernel)
set_option maxRecDepth 20000 in
theorem gX5_nightByDraws_X5_sets : GoodIn wsX5_nightByDraws (wsV RX5 203 RX5 yX5_sets wsX5_sets) := goodIn_app (goodIn_of _ (by decide +kernel)) ggX5_nightByDraws_X5_sets
set_option maxRecDepth 20000 in
theorem ggX5_nightByDraws_X5_nightGoes : GoodIn wsX5_nightByDraws wsX5_nightGoes := goodIn_r _ [19, 1, 20, 21, 22, 23, 24, 25, 5, 26, 8, 9, 10, 11, 27, 28, 29, 30, 31, 32, 33, 12, 13, 14, 15, 34, 35, 36, 37, 38, 39, 40, 41, 42, 43, 44, 45, 46, 47, 48, 49, 50, 51, 52, 53, 54, 55, 56, 57, 58, 59, 60, 61, 62, 63, 64, 65, 66, 67, 68, 69, 70, 71, 72, 73, 74, 75, 76, 77, 78, 79, 80, 81, 82, 83, 84, 85, 86, 87, 88, 89, 90, 91, 92, 93, 94, 95, 96, 97, 98, 99, 100, 101, 102, 103, 104, 105, 106] (by decide +kernel) (by decide +kernel)
set_option maxRecDepth 20000 in
theorem gX5_nightByDraws_X5_nightGoes : GoodIn wsX5_nightByDraws (wsV RX5 259 RX5 yX5_nightGoes wsX5_nightGoes) := goodIn_app (goodIn_of _ (by decide +kernel)) ggX5_nightByDraws_X5_nightGoes
theorem dX5_nightByDraws_0 : decode cX5_nightByDraws 0 = .ok (.aload_n 0, 1) := by decide +kernel
theorem dX5_nightByDraws_1 : decode cX5_nightByDraws 1 = .ok (.getfield 7, 3) := by decide +kernel
theorem dX5_nightByDraws_4 : decode cX5_nightByDraws 4 = .ok (.bipush 6, 2) := by decide +kernel
theorem dX5_nightByDraws_6 : decode cX5_nightByDraws 6 = .ok (.iaload, 1) := by decide +kernel
theorem dX5_nightByDraws_7 : decode cX5_nightByDraws 7 = .ok (.ifCond .le 46, 3) := by decide +kernel
theorem dX5_nightByDraws_10 : decode cX5_nightByDraws 10 = .ok (.aload_n 0, 1) := by decide +kernel
theorem dX5_nightByDraws_11 : decode cX5_nightByDraws 11 = .ok (.invokevirtual 263, 3) := by decide +kernel
theorem dX5_nightByDraws_14 : decode cX5_nightByDraws 14 = .ok (.aload_n 0, 1) := by decide +kernel
theorem dX5_nightByDraws_15 : decode cX5_nightByDraws 15 = .ok (.getfield 7, 3) := by decide +kernel
theorem dX5_nightByDraws_18 : decode cX5_nightByDraws 18 = .ok (.bipush 6, 2) := by decide +kernel
theorem dX5_nightByDraws_20 : decode cX5_nightByDraws 20 = .ok (.iaload, 1) := by decide +kernel
theorem dX5_nightByDraws_21 : decode cX5_nightByDraws 21 = .ok (.irem, 1) := by decide +kernel
theorem dX5_nightByDraws_22 : decode cX5_nightByDraws 22 = .ok (.istore_n 1, 1) := by decide +kernel
theorem dX5_nightByDraws_23 : decode cX5_nightByDraws 23 = .ok (.aload_n 0, 1) := by decide +kernel
theorem dX5_nightByDraws_24 : decode cX5_nightByDraws 24 = .ok (.invokevirtual 263, 3) := by decide +kernel
theorem dX5_nightByDraws_27 : decode cX5_nightByDraws 27 = .ok (.bipush 100, 2) := by decide +kernel
theorem dX5_nightByDraws_29 : decode cX5_nightByDraws 29 = .ok (.irem, 1) := by decide +kernel
theorem dX5_nightByDraws_30 : decode cX5_nightByDraws 30 = .ok (.aload_n 0, 1) := by decide +kernel
theorem dX5_nightByDraws_31 : decode cX5_nightByDraws 31 = .ok (.getfield 7, 3) := by decide +kernel
theorem dX5_nightByDraws_34 : decode cX5_nightByDraws 34 = .ok (.iconst 3, 1) := by decide +kernel
theorem dX5_nightByDraws_35 : decode cX5_nightByDraws 35 = .ok (.iaload, 1) := by decide +kernel
theorem dX5_nightByDraws_36 : decode cX5_nightByDraws 36 = .ok (.if_icmp .ge 17, 3) := by decide +kernel
theorem dX5_nightByDraws_39 : decode cX5_nightByDraws 39 = .ok (.aload_n 0, 1) := by decide +kernel
theorem dX5_nightByDraws_40 : decode cX5_nightByDraws 40 = .ok (.iload_n 1, 1) := by decide +kernel
theorem dX5_nightByDraws_41 : decode cX5_nightByDraws 41 = .ok (.iconst 2, 1) := by decide +kernel
theorem dX5_nightByDraws_42 : decode cX5_nightByDraws 42 = .ok (.aload_n 0, 1) := by decide +kernel
theorem dX5_nightByDraws_43 : decode cX5_nightByDraws 43 = .ok (.iload_n 1, 1) := by decide +kernel
theorem dX5_nightByDraws_44 : decode cX5_nightByDraws 44 = .ok (.iconst 2, 1) := by decide +kernel
theorem dX5_nightByDraws_45 : decode cX5_nightByDraws 45 = .ok (.invokevirtual 210, 3) := by decide +kernel
theorem dX5_nightByDraws_48 : decode cX5_nightByDraws 48 = .ok (.iconst 2, 1) := by decide +kernel
theorem dX5_nightByDraws_49 : decode cX5_nightByDraws 49 = .ok (.idiv, 1) := by decide +kernel
theorem dX5_nightByDraws_50 : decode cX5_nightByDraws 50 = .ok (.invokevirtual 203, 3) := by decide +kernel
theorem dX5_nightByDraws_53 : decode cX5_nightByDraws 53 = .ok (.aload_n 0, 1) := by decide +kernel
theorem dX5_nightByDraws_54 : decode cX5_nightByDraws 54 = .ok (.invokevirtual 259, 3) := by decide +kernel
theorem dX5_nightByDraws_57 : decode cX5_nightByDraws 57 = .ok (.return_, 1) := by decide +kernel
set_option maxRecDepth 20000 in
theorem ggX5_night_X5_nightByDraws : GoodIn wsX5_night wsX5_nightByDraws := goodIn_r _ [6, 7, 8, 9, 10, 5, 11, 12, 13, 14, 15, 16, 17, 18, 19, 20, 21, 22, 23, 24, 25, 1, 26, 27, 28, 29, 30, 31, 32, 33, 34, 35, 36, 37, 38, 39, 40, 41, 42, 43, 44, 45, 46, 47, 48, 49, 50, 51, 52, 53, 54, 55, 56, 57, 58, 59, 60, 61, 62, 63, 64, 65, 66, 67, 68, 69, 70, 71, 72, 73, 74, 75, 76, 77, 78, 79, 80, 81, 82, 83, 84, 85, 86, 87, 88, 89, 90, 91, 92, 93, 94, 95, 96, 97, 98, 99, 100, 101, 102, 103, 104, 105, 106, 107, 108, 109, 110] (by decide +kernel) (by decide +kernel)
set_option maxRecDepth 20000 in
theorem gX5_night_X5_nightByDraws : GoodIn wsX5_night (wsV RX5 266 RX5 yX5_nightByDraws wsX5_nightByDraws) := goodIn_app (goodIn_of _ (by decide +kernel)) ggX5_night_X5_nightByDraws
set_option maxRecDepth 20000 in
theorem ggX5_night_X5_looksOfAll : GoodIn wsX5_night wsX5_looksOfAll := goodIn_r _ [80, 65, 66, 67, 5, 68, 7, 13, 14, 15, 16, 81, 82, 83, 84, 85, 86, 87, 88, 89, 90, 91, 92, 93, 94, 95, 96, 97, 98, 99, 100, 101, 102, 103, 104, 105, 106, 107, 108, 109, 110] (by decide +kernel) (by decide +kernel)
set_option maxRecDepth 20000 in
theorem gX5_night_X5_looksOfAll : GoodIn wsX5_night (wsV RX5 252 RX5 yX5_looksOfAll wsX5_looksOfAll) := goodIn_app (goodIn_of _ (by decide +kernel)) ggX5_night_X5_looksOfAll
theorem dX5_night_0 : decode cX5_night 0 = .ok (.aload_n 0, 1) := by decide +kernel
theorem dX5_night_1 : decode cX5_night 1 = .ok (.invokevirtual 266, 3) := by decide +kernel
theorem dX5_night_4 : decode cX5_night 4 = .ok (.aload_n 0, 1) := by decide +kernel
theorem dX5_night_5 : decode cX5_night 5 = .ok (.iconst 0, 1) := by decide +kernel
theorem dX5_night_6 : decode cX5_night 6 = .ok (.putfield 255, 3) := by decide +kernel
theorem dX5_night_9 : decode cX5_night 9 = .ok (.aload_n 0, 1) := by decide +kernel
theorem dX5_night_10 : decode cX5_night 10 = .ok (.invokevirtual 252, 3) := by decide +kernel
theorem dX5_night_13 : decode cX5_night 13 = .ok (.ireturn, 1) := by decide +kernel
set_option maxRecDepth 20000 in
theorem ggX5_shy_X5_in : GoodIn wsX5_shy wsX5_in := goodIn_r _ [7] (by decide +kernel) (by decide +kernel)
set_option maxRecDepth 20000 in
theorem gX5_shy_X5_in : GoodIn wsX5_shy (va_wsS RX5 60 yX5_in wsX5_in) := goodIn_app (goodIn_of _ (by decide +kernel)) ggX5_shy_X5_in
set_option maxRecDepth 20000 in
theorem ggX5_shy_X5_moveAll : GoodIn wsX5_shy wsX5_moveAll := goodIn_r _ [10] (by decide +kernel) (by decide +kernel)
set_option maxRecDepth 20000 in
theorem gX5_shy_X5_moveAll : GoodIn wsX5_shy (va_wsS RX5 186 yX5_moveAll wsX5_moveAll) := goodIn_app (goodIn_of _ (by decide +kernel)) ggX5_shy_X5_moveAll
set_option maxRecDepth 20000 in
theorem ggX5_shy_X5_viewedBy : GoodIn wsX5_shy wsX5_viewedBy := goodIn_r _ [14, 3, 2, 1, 15, 16, 17, 6, 18, 19, 20, 21, 22, 23, 24, 25, 26, 27, 28, 29, 30, 31, 32, 33, 34, 35, 36, 37, 38, 39, 40, 41, 42, 43, 44, 45, 46, 47, 48, 49, 50, 51, 52, 53, 54, 55, 56, 57, 58, 59, 60, 61, 62, 63, 64, 65, 66, 67, 68, 69, 70, 71, 72, 73, 74, 75, 76, 77, 78, 79, 80, 81, 82, 8, 9, 10, 92, 93, 94, 95, 96, 97, 98, 99, 100, 101, 102, 103, 104, 105, 106, 107, 108, 109, 110, 111, 112, 113, 114, 115, 116, 117, 118, 119, 120, 121] (by decide +kernel) (by decide +kernel)
set_option maxRecDepth 20000 in
theorem gX5_shy_X5_viewedBy : GoodIn wsX5_shy (wsV RX5 269 RX5 yX5_viewedBy wsX5_viewedBy) := goodIn_app (goodIn_of _ (by decide +kernel)) ggX5_shy_X5_viewedBy
set_option maxRecDepth 20000 in
theorem ggX5_shy_X5_nightByDraws : GoodIn wsX5_shy wsX5_nightByDraws := goodIn_r _ [86, 1, 87, 88, 89, 6, 90, 91, 25, 26, 27, 28, 36, 37, 38, 39, 15, 16, 17, 18, 19, 3, 20, 21, 22, 23, 24, 29, 30, 31, 32, 33, 34, 35, 40, 41, 42, 43, 44, 45, 46, 47, 48, 49, 50, 51, 52, 53, 54, 55, 56, 57, 58, 59, 60, 61, 62, 63, 64, 65, 66, 67, 68, 69, 70, 71, 72, 73, 74, 75, 76, 77, 78, 79, 80, 81, 82, 92, 93, 94, 95, 96, 97, 98, 99, 100, 101, 102, 103, 104, 105, 106, 107, 108, 109, 110, 111, 112, 113, 114, 115, 116, 117, 118, 119, 120, 121] (by decide +kernel) (by decide +kernel)
set_option maxRecDepth 20000 in
theorem gX5_shy_X5_nightByDraws : GoodIn wsX5_shy (wsV RX5 266 RX5 yX5_nightByDraws wsX5_nightByDraws) := goodIn_app (goodIn_of _ (by decide +kernel)) ggX5_shy_X5_nightByDraws
theorem dX5_shy_0 : decode cX5_shy 0 = .ok (.iload_n 1, 1) := by decide +kernel
theorem dX5_shy_1 : decode cX5_shy 1 = .ok (.iconst 1, 1) := by decide +kernel
theorem dX5_shy_2 : decode cX5_shy 2 = .ok (.bipush 30, 2) := by decide +kernel
theorem dX5_shy_4 : decode cX5_shy 4 = .ok (.invokestatic 60, 3) := by decide +kernel
theorem dX5_shy_7 : decode cX5_shy 7 = .ok (.ifCond .ne 5, 3) := by decide +kernel
theorem dX5_shy_10 : decode cX5_shy 10 = .ok (.iconst (-1), 1) := by decide +kernel
theorem dX5_shy_11 : decode cX5_shy 11 = .ok (.ireturn, 1) := by decide +kernel
theorem dX5_shy_12 : decode cX5_shy 12 = .ok (.aload_n 0, 1) := by decide +kernel
theorem dX5_shy_13 : decode cX5_shy 13 = .ok (.getfield 7, 3) := by decide +kernel
theorem dX5_shy_16 : decode cX5_shy 16 = .ok (.aload_n 0, 1) := by decide +kernel
theorem dX5_shy_17 : decode cX5_shy 17 = .ok (.getfield 19, 3) := by decide +kernel
theorem dX5_shy_20 : decode cX5_shy 20 = .ok (.invokestatic 186, 3) := by decide +kernel
theorem dX5_shy_23 : decode cX5_shy 23 = .ok (.aload_n 0, 1) := by decide +kernel
theorem dX5_shy_24 : decode cX5_shy 24 = .ok (.iconst 1, 1) := by decide +kernel
theorem dX5_shy_25 : decode cX5_shy 25 = .ok (.invokevirtual 269, 3) := by decide +kernel
theorem dX5_shy_28 : decode cX5_shy 28 = .ok (.istore_n 2, 1) := by decide +kernel
theorem dX5_shy_29 : decode cX5_shy 29 = .ok (.aload_n 0, 1) := by decide +kernel
theorem dX5_shy_30 : decode cX5_shy 30 = .ok (.getfield 7, 3) := by decide +kernel
theorem dX5_shy_33 : decode cX5_shy 33 = .ok (.bipush 7, 2) := by decide +kernel
theorem dX5_shy_35 : decode cX5_shy 35 = .ok (.iaload, 1) := by decide +kernel
theorem dX5_shy_36 : decode cX5_shy 36 = .ok (.istore_n 3, 1) := by decide +kernel
theorem dX5_shy_37 : decode cX5_shy 37 = .ok (.iconst 0, 1) := by decide +kernel
theorem dX5_shy_38 : decode cX5_shy 38 = .ok (.istore 4, 2) := by decide +kernel
theorem dX5_shy_40 : decode cX5_shy 40 = .ok (.iconst 0, 1) := by decide +kernel
theorem dX5_shy_41 : decode cX5_shy 41 = .ok (.istore 5, 2) := by decide +kernel
theorem dX5_shy_43 : decode cX5_shy 43 = .ok (.iload 5, 2) := by decide +kernel
theorem dX5_shy_45 : decode cX5_shy 45 = .ok (.iload_n 1, 1) := by decide +kernel
theorem dX5_shy_46 : decode cX5_shy 46 = .ok (.if_icmp .ge 63, 3) := by decide +kernel
theorem dX5_shy_49 : decode cX5_shy 49 = .ok (.aload_n 0, 1) := by decide +kernel
theorem dX5_shy_50 : decode cX5_shy 50 = .ok (.getfield 7, 3) := by decide +kernel
theorem dX5_shy_53 : decode cX5_shy 53 = .ok (.bipush 7, 2) := by decide +kernel
theorem dX5_shy_55 : decode cX5_shy 55 = .ok (.iload_n 3, 1) := by decide +kernel
theorem dX5_shy_56 : decode cX5_shy 56 = .ok (.iastore, 1) := by decide +kernel
theorem dX5_shy_57 : decode cX5_shy 57 = .ok (.aload_n 0, 1) := by decide +kernel
theorem dX5_shy_58 : decode cX5_shy 58 = .ok (.iconst 0, 1) := by decide +kernel
theorem dX5_shy_59 : decode cX5_shy 59 = .ok (.putfield 255, 3) := by decide +kernel
theorem dX5_shy_62 : decode cX5_shy 62 = .ok (.aload_n 0, 1) := by decide +kernel
theorem dX5_shy_63 : decode cX5_shy 63 = .ok (.invokevirtual 266, 3) := by decide +kernel
theorem dX5_shy_66 : decode cX5_shy 66 = .ok (.iload 4, 2) := by decide +kernel
theorem dX5_shy_68 : decode cX5_shy 68 = .ok (.aload_n 0, 1) := by decide +kernel
theorem dX5_shy_69 : decode cX5_shy 69 = .ok (.getfield 255, 3) := by decide +kernel
theorem dX5_shy_72 : decode cX5_shy 72 = .ok (.iload_n 2, 1) := by decide +kernel
theorem dX5_shy_73 : decode cX5_shy 73 = .ok (.if_icmp .ge 7, 3) := by decide +kernel
theorem dX5_shy_76 : decode cX5_shy 76 = .ok (.iconst 1, 1) := by decide +kernel
theorem dX5_shy_77 : decode cX5_shy 77 = .ok (.goto 4, 3) := by decide +kernel
theorem dX5_shy_80 : decode cX5_shy 80 = .ok (.iconst 0, 1) := by decide +kernel
theorem dX5_shy_81 : decode cX5_shy 81 = .ok (.iadd, 1) := by decide +kernel
theorem dX5_shy_82 : decode cX5_shy 82 = .ok (.istore 4, 2) := by decide +kernel
theorem dX5_shy_84 : decode cX5_shy 84 = .ok (.aload_n 0, 1) := by decide +kernel
theorem dX5_shy_85 : decode cX5_shy 85 = .ok (.getfield 7, 3) := by decide +kernel
theorem dX5_shy_88 : decode cX5_shy 88 = .ok (.bipush 7, 2) := by decide +kernel
theorem dX5_shy_90 : decode cX5_shy 90 = .ok (.iaload, 1) := by decide +kernel
theorem dX5_shy_91 : decode cX5_shy 91 = .ok (.istore_n 3, 1) := by decide +kernel
theorem dX5_shy_92 : decode cX5_shy 92 = .ok (.aload_n 0, 1) := by decide +kernel
theorem dX5_shy_93 : decode cX5_shy 93 = .ok (.getfield 19, 3) := by decide +kernel
theorem dX5_shy_96 : decode cX5_shy 96 = .ok (.aload_n 0, 1) := by decide +kernel
theorem dX5_shy_97 : decode cX5_shy 97 = .ok (.getfield 7, 3) := by decide +kernel
theorem dX5_shy_100 : decode cX5_shy 100 = .ok (.invokestatic 186, 3) := by decide +kernel
theorem dX5_shy_103 : decode cX5_shy 103 = .ok (.iinc 5 1, 3) := by decide +kernel
theorem dX5_shy_106 : decode cX5_shy 106 = .ok (.goto (-63), 3) := by decide +kernel
theorem dX5_shy_109 : decode cX5_shy 109 = .ok (.aload_n 0, 1) := by decide +kernel
theorem dX5_shy_110 : decode cX5_shy 110 = .ok (.iconst 0, 1) := by decide +kernel
theorem dX5_shy_111 : decode cX5_shy 111 = .ok (.putfield 255, 3) := by decide +kernel
theorem dX5_shy_114 : decode cX5_shy 114 = .ok (.iload 4, 2) := by decide +kernel
theorem dX5_shy_116 : decode cX5_shy 116 = .ok (.ireturn, 1) := by decide +kernel
set_option maxRecDepth 20000 in
theorem ggX5_goneSet_X5_onWall : GoodIn wsX5_goneSet wsX5_onWall := goodIn_r _ [5, 6, 7, 8, 9, 4, 10, 11, 12, 13, 14, 15, 16, 17, 18, 19, 20, 21, 22, 23, 24, 25, 26, 27, 28, 29, 30, 31, 32, 33, 34, 35, 36, 37, 38, 39, 40] (by decide +kernel) (by decide +kernel)
set_option maxRecDepth 20000 in
theorem gX5_goneSet_X5_onWall : GoodIn wsX5_goneSet (wsV RX5 213 RX5 yX5_onWall wsX5_onWall) := goodIn_app (goodIn_of _ (by decide +kernel)) ggX5_goneSet_X5_onWall
theorem dX5_goneSet_0 : decode cX5_goneSet 0 = .ok (.aload_n 0, 1) := by decide +kernel
theorem dX5_goneSet_1 : decode cX5_goneSet 1 = .ok (.bipush 10, 2) := by decide +kernel
theorem dX5_goneSet_3 : decode cX5_goneSet 3 = .ok (.invokevirtual 213, 3) := by decide +kernel
theorem dX5_goneSet_6 : decode cX5_goneSet 6 = .ok (.ireturn, 1) := by decide +kernel
set_option maxRecDepth 20000 in
theorem ggX5_usedWalls_X5_onWall : GoodIn wsX5_usedWalls wsX5_onWall := goodIn_r _ [5, 6, 7, 8, 9, 4, 10, 11, 12, 13, 14, 15, 16, 17, 18, 19, 20, 21, 22, 23, 24, 25, 26, 27, 28, 29, 30, 31, 32, 33, 34, 35, 36, 37, 38, 39, 40] (by decide +kernel) (by decide +kernel)
set_option maxRecDepth 20000 in
theorem gX5_usedWalls_X5_onWall : GoodIn wsX5_usedWalls (wsV RX5 213 RX5 yX5_onWall wsX5_onWall) := goodIn_app (goodIn_of _ (by decide +kernel)) ggX5_usedWalls_X5_onWall
theorem dX5_usedWalls_0 : decode cX5_usedWalls 0 = .ok (.iconst 0, 1) := by decide +kernel
theorem dX5_usedWalls_1 : decode cX5_usedWalls 1 = .ok (.istore_n 1, 1) := by decide +kernel
theorem dX5_usedWalls_2 : decode cX5_usedWalls 2 = .ok (.iconst 0, 1) := by decide +kernel
theorem dX5_usedWalls_3 : decode cX5_usedWalls 3 = .ok (.istore_n 2, 1) := by decide +kernel
theorem dX5_usedWalls_4 : decode cX5_usedWalls 4 = .ok (.iload_n 2, 1) := by decide +kernel
theorem dX5_usedWalls_5 : decode cX5_usedWalls 5 = .ok (.bipush 10, 2) := by decide +kernel
theorem dX5_usedWalls_7 : decode cX5_usedWalls 7 = .ok (.if_icmp .ge 27, 3) := by decide +kernel
theorem dX5_usedWalls_10 : decode cX5_usedWalls 10 = .ok (.iload_n 1, 1) := by decide +kernel
theorem dX5_usedWalls_11 : decode cX5_usedWalls 11 = .ok (.aload_n 0, 1) := by decide +kernel
theorem dX5_usedWalls_12 : decode cX5_usedWalls 12 = .ok (.iload_n 2, 1) := by decide +kernel
theorem dX5_usedWalls_13 : decode cX5_usedWalls 13 = .ok (.invokevirtual 213, 3) := by decide +kernel
theorem dX5_usedWalls_16 : decode cX5_usedWalls 16 = .ok (.ifCond .ne 7, 3) := by decide +kernel
theorem dX5_usedWalls_19 : decode cX5_usedWalls 19 = .ok (.iconst 0, 1) := by decide +kernel
theorem dX5_usedWalls_20 : decode cX5_usedWalls 20 = .ok (.goto 6, 3) := by decide +kernel
theorem dX5_usedWalls_23 : decode cX5_usedWalls 23 = .ok (.iconst 1, 1) := by decide +kernel
theorem dX5_usedWalls_24 : decode cX5_usedWalls 24 = .ok (.iload_n 2, 1) := by decide +kernel
theorem dX5_usedWalls_25 : decode cX5_usedWalls 25 = .ok (.ishl, 1) := by decide +kernel
theorem dX5_usedWalls_26 : decode cX5_usedWalls 26 = .ok (.ior, 1) := by decide +kernel
theorem dX5_usedWalls_27 : decode cX5_usedWalls 27 = .ok (.istore_n 1, 1) := by decide +kernel
theorem dX5_usedWalls_28 : decode cX5_usedWalls 28 = .ok (.iinc 2 1, 3) := by decide +kernel
theorem dX5_usedWalls_31 : decode cX5_usedWalls 31 = .ok (.goto (-27), 3) := by decide +kernel
theorem dX5_usedWalls_34 : decode cX5_usedWalls 34 = .ok (.iload_n 1, 1) := by decide +kernel
theorem dX5_usedWalls_35 : decode cX5_usedWalls 35 = .ok (.ireturn, 1) := by decide +kernel
set_option maxRecDepth 20000 in
theorem ggX5_greyWalls_X5_ground : GoodIn wsX5_greyWalls wsX5_ground := goodIn_r _ [5, 6, 7, 8, 9, 10, 11, 12, 13, 14, 15, 16, 17, 18, 19, 20, 21, 22, 23, 24, 25, 26, 27, 28, 29, 30, 31, 32, 33, 34, 35, 36] (by decide +kernel) (by decide +kernel)
set_option maxRecDepth 20000 in
theorem gX5_greyWalls_X5_ground : GoodIn wsX5_greyWalls (wsV RX5 219 RX5 yX5_ground wsX5_ground) := goodIn_app (goodIn_of _ (by decide +kernel)) ggX5_greyWalls_X5_ground
theorem dX5_greyWalls_0 : decode cX5_greyWalls 0 = .ok (.iconst 0, 1) := by decide +kernel
theorem dX5_greyWalls_1 : decode cX5_greyWalls 1 = .ok (.istore_n 1, 1) := by decide +kernel
theorem dX5_greyWalls_2 : decode cX5_greyWalls 2 = .ok (.iconst 0, 1) := by decide +kernel
theorem dX5_greyWalls_3 : decode cX5_greyWalls 3 = .ok (.istore_n 2, 1) := by decide +kernel
theorem dX5_greyWalls_4 : decode cX5_greyWalls 4 = .ok (.iload_n 2, 1) := by decide +kernel
theorem dX5_greyWalls_5 : decode cX5_greyWalls 5 = .ok (.bipush 10, 2) := by decide +kernel
theorem dX5_greyWalls_7 : decode cX5_greyWalls 7 = .ok (.if_icmp .ge 28, 3) := by decide +kernel
theorem dX5_greyWalls_10 : decode cX5_greyWalls 10 = .ok (.iload_n 1, 1) := by decide +kernel
theorem dX5_greyWalls_11 : decode cX5_greyWalls 11 = .ok (.aload_n 0, 1) := by decide +kernel
theorem dX5_greyWalls_12 : decode cX5_greyWalls 12 = .ok (.iload_n 2, 1) := by decide +kernel
theorem dX5_greyWalls_13 : decode cX5_greyWalls 13 = .ok (.invokevirtual 219, 3) := by decide +kernel
theorem dX5_greyWalls_16 : decode cX5_greyWalls 16 = .ok (.iconst 1, 1) := by decide +kernel
theorem dX5_greyWalls_17 : decode cX5_greyWalls 17 = .ok (.if_icmp .ne 9, 3) := by decide +kernel
theorem dX5_greyWalls_20 : decode cX5_greyWalls 20 = .ok (.iconst 1, 1) := by decide +kernel
theorem dX5_greyWalls_21 : decode cX5_greyWalls 21 = .ok (.iload_n 2, 1) := by decide +kernel
theorem dX5_greyWalls_22 : decode cX5_greyWalls 22 = .ok (.ishl, 1) := by decide +kernel
theorem dX5_greyWalls_23 : decode cX5_greyWalls 23 = .ok (.goto 4, 3) := by decide +kernel
theorem dX5_greyWalls_26 : decode cX5_greyWalls 26 = .ok (.iconst 0, 1) := by decide +kernel
theorem dX5_greyWalls_27 : decode cX5_greyWalls 27 = .ok (.ior, 1) := by decide +kernel
theorem dX5_greyWalls_28 : decode cX5_greyWalls 28 = .ok (.istore_n 1, 1) := by decide +kernel
theorem dX5_greyWalls_29 : decode cX5_greyWalls 29 = .ok (.iinc 2 1, 3) := by decide +kernel
theorem dX5_greyWalls_32 : decode cX5_greyWalls 32 = .ok (.goto (-28), 3) := by decide +kernel
theorem dX5_greyWalls_35 : decode cX5_greyWalls 35 = .ok (.iload_n 1, 1) := by decide +kernel
theorem dX5_greyWalls_36 : decode cX5_greyWalls 36 = .ok (.ireturn, 1) := by decide +kernel
set_option maxRecDepth 20000 in
theorem ggX5_state_X5_looksOfAll : GoodIn wsX5_state wsX5_looksOfAll := goodIn_r _ [6, 7, 8, 9, 5, 10, 1, 11, 12, 13, 14, 35, 36, 37, 38, 39, 40, 41, 42, 43, 44, 45, 46, 47, 48, 49, 50, 51, 52, 53, 54, 55, 56, 57, 58, 59, 60, 61, 62, 63, 64] (by decide +kernel) (by decide +kernel)
set_option maxRecDepth 20000 in
theorem gX5_state_X5_looksOfAll : GoodIn wsX5_state (wsV RX5 252 RX5 yX5_looksOfAll wsX5_looksOfAll) := goodIn_app (goodIn_of _ (by decide +kernel)) ggX5_state_X5_looksOfAll
set_option maxRecDepth 20000 in
theorem ggX5_state_X5_goneSet : GoodIn wsX5_state wsX5_goneSet := goodIn_r _ [18, 19, 20, 21, 5, 22, 1, 11, 12, 13, 14, 35, 36, 37, 38, 39, 40, 41, 42, 43, 44, 45, 46, 47, 48, 49, 50, 51, 52, 53, 54, 55, 56, 57, 58, 59, 60, 61, 62, 63, 64] (by decide +kernel) (by decide +kernel)
set_option maxRecDepth 20000 in
theorem gX5_state_X5_goneSet : GoodIn wsX5_state (wsV RX5 272 RX5 yX5_goneSet wsX5_goneSet) := goodIn_app (goodIn_of _ (by decide +kernel)) ggX5_state_X5_goneSet
set_option maxRecDepth 20000 in
theorem ggX5_state_X5_usedWalls : GoodIn wsX5_state wsX5_usedWalls := goodIn_r _ [26, 19, 20, 21, 5, 22, 1, 11, 12, 13, 14, 35, 36, 37, 38, 39, 40, 41, 42, 43, 44, 45, 46, 47, 48, 49, 50, 51, 52, 53, 54, 55, 56, 57, 58, 59, 60, 61, 62, 63, 64] (by decide +kernel) (by decide +kernel)
set_option maxRecDepth 20000 in
theorem gX5_state_X5_usedWalls : GoodIn wsX5_state (wsV RX5 275 RX5 yX5_usedWalls wsX5_usedWalls) := goodIn_app (goodIn_of _ (by decide +kernel)) ggX5_state_X5_usedWalls
set_option maxRecDepth 20000 in
theorem ggX5_state_X5_greyWalls : GoodIn wsX5_state wsX5_greyWalls := goodIn_r _ [30, 31, 32, 33, 5, 34, 1, 35, 36, 37, 38, 39, 40, 41, 42, 43, 44, 45, 46, 47, 48, 49, 50, 51, 52, 53, 54, 55, 56, 57, 58, 59, 60, 61, 62, 63, 64] (by decide +kernel) (by decide +kernel)
set_option maxRecDepth 20000 in
theorem gX5_state_X5_greyWalls : GoodIn wsX5_state (wsV RX5 278 RX5 yX5_greyWalls wsX5_greyWalls) := goodIn_app (goodIn_of _ (by decide +kernel)) ggX5_state_X5_greyWalls
theorem dX5_state_0 : decode cX5_state 0 = .ok (.iload_n 1, 1) := by decide +kernel
theorem dX5_state_1 : decode cX5_state 1 = .ok (.tableswitch 73 0 5 #[39, 46, 53, 58, 63, 68], 39) := by decide +kernel
theorem dX5_state_40 : decode cX5_state 40 = .ok (.aload_n 0, 1) := by decide +kernel
theorem dX5_state_41 : decode cX5_state 41 = .ok (.getfield 7, 3) := by decide +kernel
theorem dX5_state_44 : decode cX5_state 44 = .ok (.iconst 4, 1) := by decide +kernel
theorem dX5_state_45 : decode cX5_state 45 = .ok (.iaload, 1) := by decide +kernel
theorem dX5_state_46 : decode cX5_state 46 = .ok (.ireturn, 1) := by decide +kernel
theorem dX5_state_47 : decode cX5_state 47 = .ok (.aload_n 0, 1) := by decide +kernel
theorem dX5_state_48 : decode cX5_state 48 = .ok (.getfield 7, 3) := by decide +kernel
theorem dX5_state_51 : decode cX5_state 51 = .ok (.iconst 5, 1) := by decide +kernel
theorem dX5_state_52 : decode cX5_state 52 = .ok (.iaload, 1) := by decide +kernel
theorem dX5_state_53 : decode cX5_state 53 = .ok (.ireturn, 1) := by decide +kernel
theorem dX5_state_54 : decode cX5_state 54 = .ok (.aload_n 0, 1) := by decide +kernel
theorem dX5_state_55 : decode cX5_state 55 = .ok (.invokevirtual 252, 3) := by decide +kernel
theorem dX5_state_58 : decode cX5_state 58 = .ok (.ireturn, 1) := by decide +kernel
theorem dX5_state_59 : decode cX5_state 59 = .ok (.aload_n 0, 1) := by decide +kernel
theorem dX5_state_60 : decode cX5_state 60 = .ok (.invokevirtual 272, 3) := by decide +kernel
theorem dX5_state_63 : decode cX5_state 63 = .ok (.ireturn, 1) := by decide +kernel
theorem dX5_state_64 : decode cX5_state 64 = .ok (.aload_n 0, 1) := by decide +kernel
theorem dX5_state_65 : decode cX5_state 65 = .ok (.invokevirtual 275, 3) := by decide +kernel
theorem dX5_state_68 : decode cX5_state 68 = .ok (.ireturn, 1) := by decide +kernel
theorem dX5_state_69 : decode cX5_state 69 = .ok (.aload_n 0, 1) := by decide +kernel
theorem dX5_state_70 : decode cX5_state 70 = .ok (.invokevirtual 278, 3) := by decide +kernel
theorem dX5_state_73 : decode cX5_state 73 = .ok (.ireturn, 1) := by decide +kernel
theorem dX5_state_74 : decode cX5_state 74 = .ok (.iconst (-1), 1) := by decide +kernel
theorem dX5_state_75 : decode cX5_state 75 = .ok (.ireturn, 1) := by decide +kernel
set_option maxRecDepth 20000 in
theorem ggX5_viewedBy_X5_nightGoes : GoodIn wsX5_viewedBy wsX5_nightGoes := goodIn_r _ [8, 3, 9, 1, 10, 11, 12, 13, 7, 14, 15, 16, 17, 18, 19, 20, 21, 22, 23, 24, 25, 26, 27, 28, 29, 30, 31, 32, 33, 34, 35, 36, 37, 38, 39, 40, 41, 42, 43, 44, 45, 46, 47, 48, 49, 50, 51, 52, 53, 54, 55, 56, 57, 58, 59, 60, 61, 62, 63, 64, 65, 66, 67, 68, 69, 70, 71, 72, 76, 77, 78, 79, 80, 81, 82, 83, 84, 85, 86, 87, 88, 89, 90, 91, 92, 93, 94, 95, 96, 97, 98, 99, 100, 101, 102, 103, 104, 105] (by decide +kernel) (by decide +kernel)
set_option maxRecDepth 20000 in
theorem gX5_viewedBy_X5_nightGoes : GoodIn wsX5_viewedBy (wsV RX5 259 RX5 yX5_nightGoes wsX5_nightGoes) := goodIn_app (goodIn_of _ (by decide +kernel)) ggX5_viewedBy_X5_nightGoes
set_option maxRecDepth 20000 in
theorem ggX5_viewedBy_X5_moveAll : GoodIn wsX5_viewedBy wsX5_moveAll := goodIn_r _ [75] (by decide +kernel) (by decide +kernel)
set_option maxRecDepth 20000 in
theorem gX5_viewedBy_X5_moveAll : GoodIn wsX5_viewedBy (va_wsS RX5 186 yX5_moveAll wsX5_moveAll) := goodIn_app (goodIn_of _ (by decide +kernel)) ggX5_viewedBy_X5_moveAll
theorem dX5_viewedBy_0 : decode cX5_viewedBy 0 = .ok (.aload_n 0, 1) := by decide +kernel
theorem dX5_viewedBy_1 : decode cX5_viewedBy 1 = .ok (.iconst 0, 1) := by decide +kernel
theorem dX5_viewedBy_2 : decode cX5_viewedBy 2 = .ok (.putfield 255, 3) := by decide +kernel
theorem dX5_viewedBy_5 : decode cX5_viewedBy 5 = .ok (.iconst 0, 1) := by decide +kernel
theorem dX5_viewedBy_6 : decode cX5_viewedBy 6 = .ok (.istore_n 2, 1) := by decide +kernel
theorem dX5_viewedBy_7 : decode cX5_viewedBy 7 = .ok (.iload_n 2, 1) := by decide +kernel
theorem dX5_viewedBy_8 : decode cX5_viewedBy 8 = .ok (.iload_n 1, 1) := by decide +kernel
theorem dX5_viewedBy_9 : decode cX5_viewedBy 9 = .ok (.if_icmp .ge 13, 3) := by decide +kernel
theorem dX5_viewedBy_12 : decode cX5_viewedBy 12 = .ok (.aload_n 0, 1) := by decide +kernel
theorem dX5_viewedBy_13 : decode cX5_viewedBy 13 = .ok (.invokevirtual 259, 3) := by decide +kernel
theorem dX5_viewedBy_16 : decode cX5_viewedBy 16 = .ok (.iinc 2 1, 3) := by decide +kernel
theorem dX5_viewedBy_19 : decode cX5_viewedBy 19 = .ok (.goto (-12), 3) := by decide +kernel
theorem dX5_viewedBy_22 : decode cX5_viewedBy 22 = .ok (.aload_n 0, 1) := by decide +kernel
theorem dX5_viewedBy_23 : decode cX5_viewedBy 23 = .ok (.getfield 255, 3) := by decide +kernel
theorem dX5_viewedBy_26 : decode cX5_viewedBy 26 = .ok (.istore_n 2, 1) := by decide +kernel
theorem dX5_viewedBy_27 : decode cX5_viewedBy 27 = .ok (.aload_n 0, 1) := by decide +kernel
theorem dX5_viewedBy_28 : decode cX5_viewedBy 28 = .ok (.iconst 0, 1) := by decide +kernel
theorem dX5_viewedBy_29 : decode cX5_viewedBy 29 = .ok (.putfield 255, 3) := by decide +kernel
theorem dX5_viewedBy_32 : decode cX5_viewedBy 32 = .ok (.aload_n 0, 1) := by decide +kernel
theorem dX5_viewedBy_33 : decode cX5_viewedBy 33 = .ok (.getfield 19, 3) := by decide +kernel
theorem dX5_viewedBy_36 : decode cX5_viewedBy 36 = .ok (.aload_n 0, 1) := by decide +kernel
theorem dX5_viewedBy_37 : decode cX5_viewedBy 37 = .ok (.getfield 7, 3) := by decide +kernel
theorem dX5_viewedBy_40 : decode cX5_viewedBy 40 = .ok (.invokestatic 186, 3) := by decide +kernel
theorem dX5_viewedBy_43 : decode cX5_viewedBy 43 = .ok (.iload_n 2, 1) := by decide +kernel
theorem dX5_viewedBy_44 : decode cX5_viewedBy 44 = .ok (.ireturn, 1) := by decide +kernel
set_option maxRecDepth 20000 in
theorem ggX5_view_X5_in : GoodIn wsX5_view wsX5_in := goodIn_r _ [6] (by decide +kernel) (by decide +kernel)
set_option maxRecDepth 20000 in
theorem gX5_view_X5_in : GoodIn wsX5_view (va_wsS RX5 60 yX5_in wsX5_in) := goodIn_app (goodIn_of _ (by decide +kernel)) ggX5_view_X5_in
set_option maxRecDepth 20000 in
theorem ggX5_view_X5_moveAll : GoodIn wsX5_view wsX5_moveAll := goodIn_r _ [9] (by decide +kernel) (by decide +kernel)
set_option maxRecDepth 20000 in
theorem gX5_view_X5_moveAll : GoodIn wsX5_view (va_wsS RX5 186 yX5_moveAll wsX5_moveAll) := goodIn_app (goodIn_of _ (by decide +kernel)) ggX5_view_X5_moveAll
set_option maxRecDepth 20000 in
theorem ggX5_view_X5_viewedBy : GoodIn wsX5_view wsX5_viewedBy := goodIn_r _ [13, 14, 2, 1, 15, 16, 17, 5, 18, 19, 20, 21, 22, 23, 24, 25, 26, 27, 28, 29, 30, 31, 32, 33, 34, 35, 36, 37, 38, 39, 40, 41, 42, 43, 44, 45, 46, 47, 48, 49, 50, 51, 52, 53, 54, 55, 56, 57, 58, 59, 60, 61, 62, 63, 64, 65, 66, 67, 68, 69, 70, 71, 72, 73, 74, 75, 76, 77, 78, 79, 80, 81, 82, 7, 8, 9, 83, 84, 85, 86, 87, 88, 89, 90, 91, 92, 93, 94, 95, 96, 97, 98, 99, 100, 101, 102, 103, 104, 105, 106, 107, 108, 109, 110, 111, 112] (by decide +kernel) (by decide +kernel)
set_option maxRecDepth 20000 in
theorem gX5_view_X5_viewedBy : GoodIn wsX5_view (wsV RX5 269 RX5 yX5_viewedBy wsX5_viewedBy) := goodIn_app (goodIn_of _ (by decide +kernel)) ggX5_view_X5_viewedBy
theorem dX5_view_0 : decode cX5_view 0 = .ok (.iload_n 1, 1) := by decide +kernel
theorem dX5_view_1 : decode cX5_view 1 = .ok (.iconst 0, 1) := by decide +kernel
theorem dX5_view_2 : decode cX5_view 2 = .ok (.bipush 60, 2) := by decide +kernel
theorem dX5_view_4 : decode cX5_view 4 = .ok (.invokestatic 60, 3) := by decide +kernel
theorem dX5_view_7 : decode cX5_view 7 = .ok (.ifCond .ne 5, 3) := by decide +kernel
theorem dX5_view_10 : decode cX5_view 10 = .ok (.iconst (-1), 1) := by decide +kernel
theorem dX5_view_11 : decode cX5_view 11 = .ok (.ireturn, 1) := by decide +kernel
theorem dX5_view_12 : decode cX5_view 12 = .ok (.aload_n 0, 1) := by decide +kernel
theorem dX5_view_13 : decode cX5_view 13 = .ok (.getfield 7, 3) := by decide +kernel
theorem dX5_view_16 : decode cX5_view 16 = .ok (.aload_n 0, 1) := by decide +kernel
theorem dX5_view_17 : decode cX5_view 17 = .ok (.getfield 19, 3) := by decide +kernel
theorem dX5_view_20 : decode cX5_view 20 = .ok (.invokestatic 186, 3) := by decide +kernel
theorem dX5_view_23 : decode cX5_view 23 = .ok (.aload_n 0, 1) := by decide +kernel
theorem dX5_view_24 : decode cX5_view 24 = .ok (.iload_n 1, 1) := by decide +kernel
theorem dX5_view_25 : decode cX5_view 25 = .ok (.invokevirtual 269, 3) := by decide +kernel
theorem dX5_view_28 : decode cX5_view 28 = .ok (.ireturn, 1) := by decide +kernel
set_option maxRecDepth 20000 in
theorem ggX5_whenGone_X5_moveAll : GoodIn wsX5_whenGone wsX5_moveAll := goodIn_r _ [6] (by decide +kernel) (by decide +kernel)
set_option maxRecDepth 20000 in
theorem gX5_whenGone_X5_moveAll : GoodIn wsX5_whenGone (va_wsS RX5 186 yX5_moveAll wsX5_moveAll) := goodIn_app (goodIn_of _ (by decide +kernel)) ggX5_whenGone_X5_moveAll
set_option maxRecDepth 20000 in
theorem ggX5_whenGone_X5_isGone : GoodIn wsX5_whenGone wsX5_isGone := goodIn_r _ [10, 11, 12, 13, 5, 14, 1, 76, 77, 78, 79, 80, 81, 82, 83, 84, 85, 86, 87, 88, 89, 90, 91, 92, 93, 94, 95, 96, 97, 98, 99, 100, 101, 102, 103, 104, 105] (by decide +kernel) (by decide +kernel)
set_option maxRecDepth 20000 in
theorem gX5_whenGone_X5_isGone : GoodIn wsX5_whenGone (wsV RX5 228 RX5 yX5_isGone wsX5_isGone) := goodIn_app (goodIn_of _ (by decide +kernel)) ggX5_whenGone_X5_isGone
set_option maxRecDepth 20000 in
theorem ggX5_whenGone_X5_nightGoes : GoodIn wsX5_whenGone wsX5_nightGoes := goodIn_r _ [18, 1, 19, 20, 21, 7, 8, 9, 5, 10, 11, 12, 13, 14, 22, 23, 24, 25, 26, 27, 28, 29, 30, 31, 32, 33, 34, 35, 36, 37, 38, 39, 40, 41, 42, 43, 44, 45, 46, 47, 48, 49, 50, 51, 52, 53, 54, 55, 56, 57, 58, 59, 60, 61, 62, 63, 64, 65, 66, 67, 68, 69, 70, 71, 72, 73, 74, 75, 76, 77, 78, 79, 80, 81, 82, 83, 84, 85, 86, 87, 88, 89, 90, 91, 92, 93, 94, 95, 96, 97, 98, 99, 100, 101, 102, 103, 104, 105] (by decide +kernel) (by decide +kernel)
set_option maxRecDepth 20000 in
theorem gX5_whenGone_X5_nightGoes : GoodIn wsX5_whenGone (wsV RX5 259 RX5 yX5_nightGoes wsX5_nightGoes) := goodIn_app (goodIn_of _ (by decide +kernel)) ggX5_whenGone_X5_nightGoes
theorem dX5_whenGone_0 : decode cX5_whenGone 0 = .ok (.aload_n 0, 1) := by decide +kernel
theorem dX5_whenGone_1 : decode cX5_whenGone 1 = .ok (.getfield 7, 3) := by decide +kernel
theorem dX5_whenGone_4 : decode cX5_whenGone 4 = .ok (.aload_n 0, 1) := by decide +kernel
theorem dX5_whenGone_5 : decode cX5_whenGone 5 = .ok (.getfield 19, 3) := by decide +kernel
theorem dX5_whenGone_8 : decode cX5_whenGone 8 = .ok (.invokestatic 186, 3) := by decide +kernel
theorem dX5_whenGone_11 : decode cX5_whenGone 11 = .ok (.iconst 0, 1) := by decide +kernel
theorem dX5_whenGone_12 : decode cX5_whenGone 12 = .ok (.istore_n 3, 1) := by decide +kernel
theorem dX5_whenGone_13 : decode cX5_whenGone 13 = .ok (.iload_n 3, 1) := by decide +kernel
theorem dX5_whenGone_14 : decode cX5_whenGone 14 = .ok (.bipush 60, 2) := by decide +kernel
theorem dX5_whenGone_16 : decode cX5_whenGone 16 = .ok (.if_icmp .gt 22, 3) := by decide +kernel
theorem dX5_whenGone_19 : decode cX5_whenGone 19 = .ok (.aload_n 0, 1) := by decide +kernel
theorem dX5_whenGone_20 : decode cX5_whenGone 20 = .ok (.iload_n 1, 1) := by decide +kernel
theorem dX5_whenGone_21 : decode cX5_whenGone 21 = .ok (.invokevirtual 228, 3) := by decide +kernel
theorem dX5_whenGone_24 : decode cX5_whenGone 24 = .ok (.iload_n 2, 1) := by decide +kernel
theorem dX5_whenGone_25 : decode cX5_whenGone 25 = .ok (.if_icmp .eq 13, 3) := by decide +kernel
theorem dX5_whenGone_28 : decode cX5_whenGone 28 = .ok (.aload_n 0, 1) := by decide +kernel
theorem dX5_whenGone_29 : decode cX5_whenGone 29 = .ok (.invokevirtual 259, 3) := by decide +kernel
theorem dX5_whenGone_32 : decode cX5_whenGone 32 = .ok (.iinc 3 1, 3) := by decide +kernel
theorem dX5_whenGone_35 : decode cX5_whenGone 35 = .ok (.goto (-22), 3) := by decide +kernel
theorem dX5_whenGone_38 : decode cX5_whenGone 38 = .ok (.aload_n 0, 1) := by decide +kernel
theorem dX5_whenGone_39 : decode cX5_whenGone 39 = .ok (.getfield 19, 3) := by decide +kernel
theorem dX5_whenGone_42 : decode cX5_whenGone 42 = .ok (.aload_n 0, 1) := by decide +kernel
theorem dX5_whenGone_43 : decode cX5_whenGone 43 = .ok (.getfield 7, 3) := by decide +kernel
theorem dX5_whenGone_46 : decode cX5_whenGone 46 = .ok (.invokestatic 186, 3) := by decide +kernel
theorem dX5_whenGone_49 : decode cX5_whenGone 49 = .ok (.iload_n 3, 1) := by decide +kernel
theorem dX5_whenGone_50 : decode cX5_whenGone 50 = .ok (.bipush 60, 2) := by decide +kernel
theorem dX5_whenGone_52 : decode cX5_whenGone 52 = .ok (.if_icmp .le 8, 3) := by decide +kernel
theorem dX5_whenGone_55 : decode cX5_whenGone 55 = .ok (.bipush (-3), 2) := by decide +kernel
theorem dX5_whenGone_57 : decode cX5_whenGone 57 = .ok (.goto 4, 3) := by decide +kernel
theorem dX5_whenGone_60 : decode cX5_whenGone 60 = .ok (.iload_n 3, 1) := by decide +kernel
theorem dX5_whenGone_61 : decode cX5_whenGone 61 = .ok (.ireturn, 1) := by decide +kernel
set_option maxRecDepth 20000 in
theorem ggX5_stays_X5_isOne : GoodIn wsX5_stays wsX5_isOne := goodIn_r _ [5, 6, 7, 8, 4, 9, 87, 88, 89, 90, 91, 92, 93, 94, 95, 96, 97, 98, 99, 100, 101, 102, 103, 104, 105, 106, 107, 108, 109, 110, 111, 112, 113, 114, 115, 116] (by decide +kernel) (by decide +kernel)
set_option maxRecDepth 20000 in
theorem gX5_stays_X5_isOne : GoodIn wsX5_stays (wsV RX5 207 RX5 yX5_isOne wsX5_isOne) := goodIn_app (goodIn_of _ (by decide +kernel)) ggX5_stays_X5_isOne
set_option maxRecDepth 20000 in
theorem ggX5_stays_X5_whenGone : GoodIn wsX5_stays wsX5_whenGone := goodIn_r _ [13, 6, 14, 15, 16, 4, 17, 18, 19, 20, 21, 22, 23, 24, 25, 26, 27, 28, 29, 30, 31, 32, 33, 34, 35, 36, 37, 38, 39, 40, 41, 42, 43, 44, 45, 46, 47, 48, 49, 50, 51, 52, 53, 54, 55, 56, 57, 58, 59, 60, 61, 62, 63, 64, 65, 66, 67, 68, 69, 70, 71, 72, 73, 74, 75, 76, 77, 78, 79, 80, 81, 82, 83, 84, 85, 86, 87, 88, 89, 90, 91, 92, 93, 94, 95, 96, 97, 98, 99, 100, 101, 102, 103, 104, 105, 106, 107, 108, 109, 110, 111, 112, 113, 114, 115, 116] (by decide +kernel) (by decide +kernel)
set_option maxRecDepth 20000 in
theorem gX5_stays_X5_whenGone : GoodIn wsX5_stays (wsV RX5 281 RX5 yX5_whenGone wsX5_whenGone) := goodIn_app (goodIn_of _ (by decide +kernel)) ggX5_stays_X5_whenGone
theorem dX5_stays_0 : decode cX5_stays 0 = .ok (.aload_n 0, 1) := by decide +kernel
theorem dX5_stays_1 : decode cX5_stays 1 = .ok (.iload_n 1, 1) := by decide +kernel
theorem dX5_stays_2 : decode cX5_stays 2 = .ok (.invokevirtual 207, 3) := by decide +kernel
theorem dX5_stays_5 : decode cX5_stays 5 = .ok (.ifCond .eq 12, 3) := by decide +kernel
theorem dX5_stays_8 : decode cX5_stays 8 = .ok (.aload_n 0, 1) := by decide +kernel
theorem dX5_stays_9 : decode cX5_stays 9 = .ok (.iload_n 1, 1) := by decide +kernel
theorem dX5_stays_10 : decode cX5_stays 10 = .ok (.iconst 1, 1) := by decide +kernel
theorem dX5_stays_11 : decode cX5_stays 11 = .ok (.invokevirtual 281, 3) := by decide +kernel
theorem dX5_stays_14 : decode cX5_stays 14 = .ok (.goto 4, 3) := by decide +kernel
theorem dX5_stays_17 : decode cX5_stays 17 = .ok (.iconst (-1), 1) := by decide +kernel
theorem dX5_stays_18 : decode cX5_stays 18 = .ok (.ireturn, 1) := by decide +kernel
set_option maxRecDepth 20000 in
theorem ggX5_comes_X5_isOne : GoodIn wsX5_comes wsX5_isOne := goodIn_r _ [5, 6, 7, 8, 4, 9, 87, 88, 89, 90, 91, 92, 93, 94, 95, 96, 97, 98, 99, 100, 101, 102, 103, 104, 105, 106, 107, 108, 109, 110, 111, 112, 113, 114, 115, 116] (by decide +kernel) (by decide +kernel)
set_option maxRecDepth 20000 in
theorem gX5_comes_X5_isOne : GoodIn wsX5_comes (wsV RX5 207 RX5 yX5_isOne wsX5_isOne) := goodIn_app (goodIn_of _ (by decide +kernel)) ggX5_comes_X5_isOne
set_option maxRecDepth 20000 in
theorem ggX5_comes_X5_whenGone : GoodIn wsX5_comes wsX5_whenGone := goodIn_r _ [13, 6, 14, 15, 16, 4, 17, 18, 19, 20, 21, 22, 23, 24, 25, 26, 27, 28, 29, 30, 31, 32, 33, 34, 35, 36, 37, 38, 39, 40, 41, 42, 43, 44, 45, 46, 47, 48, 49, 50, 51, 52, 53, 54, 55, 56, 57, 58, 59, 60, 61, 62, 63, 64, 65, 66, 67, 68, 69, 70, 71, 72, 73, 74, 75, 76, 77, 78, 79, 80, 81, 82, 83, 84, 85, 86, 87, 88, 89, 90, 91, 92, 93, 94, 95, 96, 97, 98, 99, 100, 101, 102, 103, 104, 105, 106, 107, 108, 109, 110, 111, 112, 113, 114, 115, 116] (by decide +kernel) (by decide +kernel)
set_option maxRecDepth 20000 in
theorem gX5_comes_X5_whenGone : GoodIn wsX5_comes (wsV RX5 281 RX5 yX5_whenGone wsX5_whenGone) := goodIn_app (goodIn_of _ (by decide +kernel)) ggX5_comes_X5_whenGone
